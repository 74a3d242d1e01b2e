abbrev b_BV_openBlock : ByteArray := prog_4_method_5_code
def y_BV_openBlock : MethodName := ⟨R_BV, "openBlock", "(III)V"⟩
abbrev b_BV_push : ByteArray := prog_4_method_19_code
def y_BV_push : MethodName := ⟨R_BV, "push", "(I)V"⟩
abbrev b_BV_pop : ByteArray := prog_4_method_20_code
def y_BV_pop : MethodName := ⟨R_BV, "pop", "(I)I"⟩
abbrev b_BV_becomeUnreachable : ByteArray := prog_4_method_18_code
def y_BV_becomeUnreachable : MethodName := ⟨R_BV, "becomeUnreachable", "()V"⟩
abbrev b_BV_checkElse : ByteArray := prog_4_method_6_code
def y_BV_checkElse : MethodName := ⟨R_BV, "checkElse", "()V"⟩
abbrev b_BV_closeBlock : ByteArray := prog_4_method_7_code
def y_BV_closeBlock : MethodName := ⟨R_BV, "closeBlock", "()V"⟩
abbrev b_BV_levelOf : ByteArray := prog_4_method_9_code
def y_BV_levelOf : MethodName := ⟨R_BV, "levelOf", "(J)I"⟩
abbrev b_BV_checkBranch : ByteArray := prog_4_method_8_code
def y_BV_checkBranch : MethodName := ⟨R_BV, "checkBranch", "(II)V"⟩
abbrev b_BV_checkTable : ByteArray := prog_4_method_10_code
def y_BV_checkTable : MethodName := ⟨R_BV, "checkTable", "(I)V"⟩
abbrev b_BV_checkCall : ByteArray := prog_4_method_11_code
def y_BV_checkCall : MethodName := ⟨R_BV, "checkCall", "(J)V"⟩
abbrev b_BV_checkLocal : ByteArray := prog_4_method_12_code
def y_BV_checkLocal : MethodName := ⟨R_BV, "checkLocal", "(II)V"⟩
abbrev b_BV_checkGlobal : ByteArray := prog_4_method_13_code
def y_BV_checkGlobal : MethodName := ⟨R_BV, "checkGlobal", "(IJ)V"⟩
abbrev b_BV_checkAccess : ByteArray := prog_4_method_15_code
def y_BV_checkAccess : MethodName := ⟨R_BV, "checkAccess", "(II)V"⟩
abbrev b_BV_checkMemory : ByteArray := prog_4_method_14_code
def y_BV_checkMemory : MethodName := ⟨R_BV, "checkMemory", "(II)V"⟩
abbrev b_BV_checkOperands : ByteArray := prog_4_method_17_code
def y_BV_checkOperands : MethodName := ⟨R_BV, "checkOperands", "(ZII)V"⟩
abbrev b_BV_checkNumeric : ByteArray := prog_4_method_16_code
def y_BV_checkNumeric : MethodName := ⟨R_BV, "checkNumeric", "(I)V"⟩
theorem d_BV_openBlock_0 : decode b_BV_openBlock 0 = .ok (.aload_n 0, 1) := by decide +kernel
theorem d_BV_openBlock_1 : decode b_BV_openBlock 1 = .ok (.getfield 51, 3) := by decide +kernel
theorem d_BV_openBlock_4 : decode b_BV_openBlock 4 = .ok (.bipush 101, 2) := by decide +kernel
theorem d_BV_openBlock_6 : decode b_BV_openBlock 6 = .ok (.if_icmp .lt 9, 3) := by decide +kernel
theorem d_BV_openBlock_9 : decode b_BV_openBlock 9 = .ok (.aload_n 0, 1) := by decide +kernel
theorem d_BV_openBlock_10 : decode b_BV_openBlock 10 = .ok (.iconst 1, 1) := by decide +kernel
theorem d_BV_openBlock_11 : decode b_BV_openBlock 11 = .ok (.putfield 54, 3) := by decide +kernel
theorem d_BV_openBlock_14 : decode b_BV_openBlock 14 = .ok (.return_, 1) := by decide +kernel
theorem d_BV_openBlock_15 : decode b_BV_openBlock 15 = .ok (.aload_n 0, 1) := by decide +kernel
theorem d_BV_openBlock_16 : decode b_BV_openBlock 16 = .ok (.getfield 17, 3) := by decide +kernel
theorem d_BV_openBlock_19 : decode b_BV_openBlock 19 = .ok (.aload_n 0, 1) := by decide +kernel
theorem d_BV_openBlock_20 : decode b_BV_openBlock 20 = .ok (.getfield 51, 3) := by decide +kernel
theorem d_BV_openBlock_23 : decode b_BV_openBlock 23 = .ok (.iload_n 1, 1) := by decide +kernel
theorem d_BV_openBlock_24 : decode b_BV_openBlock 24 = .ok (.iastore, 1) := by decide +kernel
theorem d_BV_openBlock_25 : decode b_BV_openBlock 25 = .ok (.aload_n 0, 1) := by decide +kernel
theorem d_BV_openBlock_26 : decode b_BV_openBlock 26 = .ok (.getfield 20, 3) := by decide +kernel
theorem d_BV_openBlock_29 : decode b_BV_openBlock 29 = .ok (.aload_n 0, 1) := by decide +kernel
theorem d_BV_openBlock_30 : decode b_BV_openBlock 30 = .ok (.getfield 51, 3) := by decide +kernel
theorem d_BV_openBlock_33 : decode b_BV_openBlock 33 = .ok (.aload_n 0, 1) := by decide +kernel
theorem d_BV_openBlock_34 : decode b_BV_openBlock 34 = .ok (.getfield 48, 3) := by decide +kernel
theorem d_BV_openBlock_37 : decode b_BV_openBlock 37 = .ok (.iastore, 1) := by decide +kernel
theorem d_BV_openBlock_38 : decode b_BV_openBlock 38 = .ok (.aload_n 0, 1) := by decide +kernel
theorem d_BV_openBlock_39 : decode b_BV_openBlock 39 = .ok (.getfield 23, 3) := by decide +kernel
theorem d_BV_openBlock_42 : decode b_BV_openBlock 42 = .ok (.aload_n 0, 1) := by decide +kernel
theorem d_BV_openBlock_43 : decode b_BV_openBlock 43 = .ok (.getfield 51, 3) := by decide +kernel
theorem d_BV_openBlock_46 : decode b_BV_openBlock 46 = .ok (.iload_n 2, 1) := by decide +kernel
theorem d_BV_openBlock_47 : decode b_BV_openBlock 47 = .ok (.iastore, 1) := by decide +kernel
theorem d_BV_openBlock_48 : decode b_BV_openBlock 48 = .ok (.aload_n 0, 1) := by decide +kernel
theorem d_BV_openBlock_49 : decode b_BV_openBlock 49 = .ok (.getfield 26, 3) := by decide +kernel
theorem d_BV_openBlock_52 : decode b_BV_openBlock 52 = .ok (.aload_n 0, 1) := by decide +kernel
theorem d_BV_openBlock_53 : decode b_BV_openBlock 53 = .ok (.getfield 51, 3) := by decide +kernel
theorem d_BV_openBlock_56 : decode b_BV_openBlock 56 = .ok (.iload_n 3, 1) := by decide +kernel
theorem d_BV_openBlock_57 : decode b_BV_openBlock 57 = .ok (.iastore, 1) := by decide +kernel
theorem d_BV_openBlock_58 : decode b_BV_openBlock 58 = .ok (.aload_n 0, 1) := by decide +kernel
theorem d_BV_openBlock_59 : decode b_BV_openBlock 59 = .ok (.getfield 29, 3) := by decide +kernel
theorem d_BV_openBlock_62 : decode b_BV_openBlock 62 = .ok (.aload_n 0, 1) := by decide +kernel
theorem d_BV_openBlock_63 : decode b_BV_openBlock 63 = .ok (.getfield 51, 3) := by decide +kernel
theorem d_BV_openBlock_66 : decode b_BV_openBlock 66 = .ok (.iconst 0, 1) := by decide +kernel
theorem d_BV_openBlock_67 : decode b_BV_openBlock 67 = .ok (.bastore, 1) := by decide +kernel
theorem d_BV_openBlock_68 : decode b_BV_openBlock 68 = .ok (.aload_n 0, 1) := by decide +kernel
theorem d_BV_openBlock_69 : decode b_BV_openBlock 69 = .ok (.dup, 1) := by decide +kernel
theorem d_BV_openBlock_70 : decode b_BV_openBlock 70 = .ok (.getfield 51, 3) := by decide +kernel
theorem d_BV_openBlock_73 : decode b_BV_openBlock 73 = .ok (.iconst 1, 1) := by decide +kernel
theorem d_BV_openBlock_74 : decode b_BV_openBlock 74 = .ok (.iadd, 1) := by decide +kernel
theorem d_BV_openBlock_75 : decode b_BV_openBlock 75 = .ok (.putfield 51, 3) := by decide +kernel
theorem d_BV_openBlock_78 : decode b_BV_openBlock 78 = .ok (.iload_n 1, 1) := by decide +kernel
theorem d_BV_openBlock_79 : decode b_BV_openBlock 79 = .ok (.ifCond .lt 16, 3) := by decide +kernel
theorem d_BV_openBlock_82 : decode b_BV_openBlock 82 = .ok (.aload_n 0, 1) := by decide +kernel
theorem d_BV_openBlock_83 : decode b_BV_openBlock 83 = .ok (.getfield 43, 3) := by decide +kernel
theorem d_BV_openBlock_86 : decode b_BV_openBlock 86 = .ok (.getfield 136, 3) := by decide +kernel
theorem d_BV_openBlock_89 : decode b_BV_openBlock 89 = .ok (.iload_n 1, 1) := by decide +kernel
theorem d_BV_openBlock_90 : decode b_BV_openBlock 90 = .ok (.aload_n 0, 1) := by decide +kernel
theorem d_BV_openBlock_91 : decode b_BV_openBlock 91 = .ok (.getfield 48, 3) := by decide +kernel
theorem d_BV_openBlock_94 : decode b_BV_openBlock 94 = .ok (.iastore, 1) := by decide +kernel
theorem d_BV_openBlock_95 : decode b_BV_openBlock 95 = .ok (.return_, 1) := by decide +kernel
theorem d_BV_push_0 : decode b_BV_push 0 = .ok (.iload_n 1, 1) := by decide +kernel
theorem d_BV_push_1 : decode b_BV_push 1 = .ok (.bipush 64, 2) := by decide +kernel
theorem d_BV_push_3 : decode b_BV_push 3 = .ok (.if_icmp .ne 4, 3) := by decide +kernel
theorem d_BV_push_6 : decode b_BV_push 6 = .ok (.return_, 1) := by decide +kernel
theorem d_BV_push_7 : decode b_BV_push 7 = .ok (.aload_n 0, 1) := by decide +kernel
theorem d_BV_push_8 : decode b_BV_push 8 = .ok (.getfield 48, 3) := by decide +kernel
theorem d_BV_push_11 : decode b_BV_push 11 = .ok (.aload_n 0, 1) := by decide +kernel
theorem d_BV_push_12 : decode b_BV_push 12 = .ok (.getfield 11, 3) := by decide +kernel
theorem d_BV_push_15 : decode b_BV_push 15 = .ok (.arraylength, 1) := by decide +kernel
theorem d_BV_push_16 : decode b_BV_push 16 = .ok (.if_icmp .lt 9, 3) := by decide +kernel
theorem d_BV_push_19 : decode b_BV_push 19 = .ok (.aload_n 0, 1) := by decide +kernel
theorem d_BV_push_20 : decode b_BV_push 20 = .ok (.iconst 1, 1) := by decide +kernel
theorem d_BV_push_21 : decode b_BV_push 21 = .ok (.putfield 54, 3) := by decide +kernel
theorem d_BV_push_24 : decode b_BV_push 24 = .ok (.return_, 1) := by decide +kernel
theorem d_BV_push_25 : decode b_BV_push 25 = .ok (.aload_n 0, 1) := by decide +kernel
theorem d_BV_push_26 : decode b_BV_push 26 = .ok (.getfield 11, 3) := by decide +kernel
theorem d_BV_push_29 : decode b_BV_push 29 = .ok (.aload_n 0, 1) := by decide +kernel
theorem d_BV_push_30 : decode b_BV_push 30 = .ok (.getfield 48, 3) := by decide +kernel
theorem d_BV_push_33 : decode b_BV_push 33 = .ok (.iload_n 1, 1) := by decide +kernel
theorem d_BV_push_34 : decode b_BV_push 34 = .ok (.iastore, 1) := by decide +kernel
theorem d_BV_push_35 : decode b_BV_push 35 = .ok (.aload_n 0, 1) := by decide +kernel
theorem d_BV_push_36 : decode b_BV_push 36 = .ok (.dup, 1) := by decide +kernel
theorem d_BV_push_37 : decode b_BV_push 37 = .ok (.getfield 48, 3) := by decide +kernel
theorem d_BV_push_40 : decode b_BV_push 40 = .ok (.iconst 1, 1) := by decide +kernel
theorem d_BV_push_41 : decode b_BV_push 41 = .ok (.iadd, 1) := by decide +kernel
theorem d_BV_push_42 : decode b_BV_push 42 = .ok (.putfield 48, 3) := by decide +kernel
theorem d_BV_push_45 : decode b_BV_push 45 = .ok (.return_, 1) := by decide +kernel
theorem d_BV_pop_0 : decode b_BV_pop 0 = .ok (.iload_n 1, 1) := by decide +kernel
theorem d_BV_pop_1 : decode b_BV_pop 1 = .ok (.bipush 64, 2) := by decide +kernel
theorem d_BV_pop_3 : decode b_BV_pop 3 = .ok (.if_icmp .ne 6, 3) := by decide +kernel
theorem d_BV_pop_6 : decode b_BV_pop 6 = .ok (.bipush 64, 2) := by decide +kernel
theorem d_BV_pop_8 : decode b_BV_pop 8 = .ok (.ireturn, 1) := by decide +kernel
theorem d_BV_pop_9 : decode b_BV_pop 9 = .ok (.aload_n 0, 1) := by decide +kernel
theorem d_BV_pop_10 : decode b_BV_pop 10 = .ok (.getfield 48, 3) := by decide +kernel
theorem d_BV_pop_13 : decode b_BV_pop 13 = .ok (.aload_n 0, 1) := by decide +kernel
theorem d_BV_pop_14 : decode b_BV_pop 14 = .ok (.getfield 20, 3) := by decide +kernel
theorem d_BV_pop_17 : decode b_BV_pop 17 = .ok (.aload_n 0, 1) := by decide +kernel
theorem d_BV_pop_18 : decode b_BV_pop 18 = .ok (.getfield 51, 3) := by decide +kernel
theorem d_BV_pop_21 : decode b_BV_pop 21 = .ok (.iconst 1, 1) := by decide +kernel
theorem d_BV_pop_22 : decode b_BV_pop 22 = .ok (.isub, 1) := by decide +kernel
theorem d_BV_pop_23 : decode b_BV_pop 23 = .ok (.iaload, 1) := by decide +kernel
theorem d_BV_pop_24 : decode b_BV_pop 24 = .ok (.if_icmp .gt 35, 3) := by decide +kernel
theorem d_BV_pop_27 : decode b_BV_pop 27 = .ok (.aload_n 0, 1) := by decide +kernel
theorem d_BV_pop_28 : decode b_BV_pop 28 = .ok (.aload_n 0, 1) := by decide +kernel
theorem d_BV_pop_29 : decode b_BV_pop 29 = .ok (.getfield 54, 3) := by decide +kernel
theorem d_BV_pop_32 : decode b_BV_pop 32 = .ok (.ifCond .ne 17, 3) := by decide +kernel
theorem d_BV_pop_35 : decode b_BV_pop 35 = .ok (.aload_n 0, 1) := by decide +kernel
theorem d_BV_pop_36 : decode b_BV_pop 36 = .ok (.getfield 29, 3) := by decide +kernel
theorem d_BV_pop_39 : decode b_BV_pop 39 = .ok (.aload_n 0, 1) := by decide +kernel
theorem d_BV_pop_40 : decode b_BV_pop 40 = .ok (.getfield 51, 3) := by decide +kernel
theorem d_BV_pop_43 : decode b_BV_pop 43 = .ok (.iconst 1, 1) := by decide +kernel
theorem d_BV_pop_44 : decode b_BV_pop 44 = .ok (.isub, 1) := by decide +kernel
theorem d_BV_pop_45 : decode b_BV_pop 45 = .ok (.baload, 1) := by decide +kernel
theorem d_BV_pop_46 : decode b_BV_pop 46 = .ok (.ifCond .ne 7, 3) := by decide +kernel
theorem d_BV_pop_49 : decode b_BV_pop 49 = .ok (.iconst 1, 1) := by decide +kernel
theorem d_BV_pop_50 : decode b_BV_pop 50 = .ok (.goto 4, 3) := by decide +kernel
theorem d_BV_pop_53 : decode b_BV_pop 53 = .ok (.iconst 0, 1) := by decide +kernel
theorem d_BV_pop_54 : decode b_BV_pop 54 = .ok (.putfield 54, 3) := by decide +kernel
theorem d_BV_pop_57 : decode b_BV_pop 57 = .ok (.iload_n 1, 1) := by decide +kernel
theorem d_BV_pop_58 : decode b_BV_pop 58 = .ok (.ireturn, 1) := by decide +kernel
theorem d_BV_pop_59 : decode b_BV_pop 59 = .ok (.aload_n 0, 1) := by decide +kernel
theorem d_BV_pop_60 : decode b_BV_pop 60 = .ok (.dup, 1) := by decide +kernel
theorem d_BV_pop_61 : decode b_BV_pop 61 = .ok (.getfield 48, 3) := by decide +kernel
theorem d_BV_pop_64 : decode b_BV_pop 64 = .ok (.iconst 1, 1) := by decide +kernel
theorem d_BV_pop_65 : decode b_BV_pop 65 = .ok (.isub, 1) := by decide +kernel
theorem d_BV_pop_66 : decode b_BV_pop 66 = .ok (.putfield 48, 3) := by decide +kernel
theorem d_BV_pop_69 : decode b_BV_pop 69 = .ok (.aload_n 0, 1) := by decide +kernel
theorem d_BV_pop_70 : decode b_BV_pop 70 = .ok (.getfield 11, 3) := by decide +kernel
theorem d_BV_pop_73 : decode b_BV_pop 73 = .ok (.aload_n 0, 1) := by decide +kernel
theorem d_BV_pop_74 : decode b_BV_pop 74 = .ok (.getfield 48, 3) := by decide +kernel
theorem d_BV_pop_77 : decode b_BV_pop 77 = .ok (.iaload, 1) := by decide +kernel
theorem d_BV_pop_78 : decode b_BV_pop 78 = .ok (.istore_n 2, 1) := by decide +kernel
theorem d_BV_pop_79 : decode b_BV_pop 79 = .ok (.iload_n 2, 1) := by decide +kernel
theorem d_BV_pop_80 : decode b_BV_pop 80 = .ok (.ifCond .ne 5, 3) := by decide +kernel
theorem d_BV_pop_83 : decode b_BV_pop 83 = .ok (.iload_n 1, 1) := by decide +kernel
theorem d_BV_pop_84 : decode b_BV_pop 84 = .ok (.ireturn, 1) := by decide +kernel
theorem d_BV_pop_85 : decode b_BV_pop 85 = .ok (.iload_n 1, 1) := by decide +kernel
theorem d_BV_pop_86 : decode b_BV_pop 86 = .ok (.ifCond .eq 13, 3) := by decide +kernel
theorem d_BV_pop_89 : decode b_BV_pop 89 = .ok (.iload_n 1, 1) := by decide +kernel
theorem d_BV_pop_90 : decode b_BV_pop 90 = .ok (.iload_n 2, 1) := by decide +kernel
theorem d_BV_pop_91 : decode b_BV_pop 91 = .ok (.if_icmp .eq 8, 3) := by decide +kernel
theorem d_BV_pop_94 : decode b_BV_pop 94 = .ok (.aload_n 0, 1) := by decide +kernel
theorem d_BV_pop_95 : decode b_BV_pop 95 = .ok (.iconst 1, 1) := by decide +kernel
theorem d_BV_pop_96 : decode b_BV_pop 96 = .ok (.putfield 54, 3) := by decide +kernel
theorem d_BV_pop_99 : decode b_BV_pop 99 = .ok (.iload_n 2, 1) := by decide +kernel
theorem d_BV_pop_100 : decode b_BV_pop 100 = .ok (.ireturn, 1) := by decide +kernel
theorem d_BV_becomeUnreachable_0 : decode b_BV_becomeUnreachable 0 = .ok (.aload_n 0, 1) := by decide +kernel
theorem d_BV_becomeUnreachable_1 : decode b_BV_becomeUnreachable 1 = .ok (.aload_n 0, 1) := by decide +kernel
theorem d_BV_becomeUnreachable_2 : decode b_BV_becomeUnreachable 2 = .ok (.getfield 20, 3) := by decide +kernel
theorem d_BV_becomeUnreachable_5 : decode b_BV_becomeUnreachable 5 = .ok (.aload_n 0, 1) := by decide +kernel
theorem d_BV_becomeUnreachable_6 : decode b_BV_becomeUnreachable 6 = .ok (.getfield 51, 3) := by decide +kernel
theorem d_BV_becomeUnreachable_9 : decode b_BV_becomeUnreachable 9 = .ok (.iconst 1, 1) := by decide +kernel
theorem d_BV_becomeUnreachable_10 : decode b_BV_becomeUnreachable 10 = .ok (.isub, 1) := by decide +kernel
theorem d_BV_becomeUnreachable_11 : decode b_BV_becomeUnreachable 11 = .ok (.iaload, 1) := by decide +kernel
theorem d_BV_becomeUnreachable_12 : decode b_BV_becomeUnreachable 12 = .ok (.putfield 48, 3) := by decide +kernel
theorem d_BV_becomeUnreachable_15 : decode b_BV_becomeUnreachable 15 = .ok (.aload_n 0, 1) := by decide +kernel
theorem d_BV_becomeUnreachable_16 : decode b_BV_becomeUnreachable 16 = .ok (.getfield 29, 3) := by decide +kernel
theorem d_BV_becomeUnreachable_19 : decode b_BV_becomeUnreachable 19 = .ok (.aload_n 0, 1) := by decide +kernel
theorem d_BV_becomeUnreachable_20 : decode b_BV_becomeUnreachable 20 = .ok (.getfield 51, 3) := by decide +kernel
theorem d_BV_becomeUnreachable_23 : decode b_BV_becomeUnreachable 23 = .ok (.iconst 1, 1) := by decide +kernel
theorem d_BV_becomeUnreachable_24 : decode b_BV_becomeUnreachable 24 = .ok (.isub, 1) := by decide +kernel
theorem d_BV_becomeUnreachable_25 : decode b_BV_becomeUnreachable 25 = .ok (.iconst 1, 1) := by decide +kernel
theorem d_BV_becomeUnreachable_26 : decode b_BV_becomeUnreachable 26 = .ok (.bastore, 1) := by decide +kernel
theorem d_BV_becomeUnreachable_27 : decode b_BV_becomeUnreachable 27 = .ok (.return_, 1) := by decide +kernel
theorem d_BV_checkElse_0 : decode b_BV_checkElse 0 = .ok (.aload_n 0, 1) := by decide +kernel
theorem d_BV_checkElse_1 : decode b_BV_checkElse 1 = .ok (.getfield 51, 3) := by decide +kernel
theorem d_BV_checkElse_4 : decode b_BV_checkElse 4 = .ok (.iconst 1, 1) := by decide +kernel
theorem d_BV_checkElse_5 : decode b_BV_checkElse 5 = .ok (.isub, 1) := by decide +kernel
theorem d_BV_checkElse_6 : decode b_BV_checkElse 6 = .ok (.istore_n 1, 1) := by decide +kernel
theorem d_BV_checkElse_7 : decode b_BV_checkElse 7 = .ok (.aload_n 0, 1) := by decide +kernel
theorem d_BV_checkElse_8 : decode b_BV_checkElse 8 = .ok (.aload_n 0, 1) := by decide +kernel
theorem d_BV_checkElse_9 : decode b_BV_checkElse 9 = .ok (.getfield 23, 3) := by decide +kernel
theorem d_BV_checkElse_12 : decode b_BV_checkElse 12 = .ok (.iload_n 1, 1) := by decide +kernel
theorem d_BV_checkElse_13 : decode b_BV_checkElse 13 = .ok (.iaload, 1) := by decide +kernel
theorem d_BV_checkElse_14 : decode b_BV_checkElse 14 = .ok (.invokevirtual 86, 3) := by decide +kernel
theorem d_BV_checkElse_17 : decode b_BV_checkElse 17 = .ok (.pop, 1) := by decide +kernel
theorem d_BV_checkElse_18 : decode b_BV_checkElse 18 = .ok (.aload_n 0, 1) := by decide +kernel
theorem d_BV_checkElse_19 : decode b_BV_checkElse 19 = .ok (.getfield 48, 3) := by decide +kernel
theorem d_BV_checkElse_22 : decode b_BV_checkElse 22 = .ok (.aload_n 0, 1) := by decide +kernel
theorem d_BV_checkElse_23 : decode b_BV_checkElse 23 = .ok (.getfield 20, 3) := by decide +kernel
theorem d_BV_checkElse_26 : decode b_BV_checkElse 26 = .ok (.iload_n 1, 1) := by decide +kernel
theorem d_BV_checkElse_27 : decode b_BV_checkElse 27 = .ok (.iaload, 1) := by decide +kernel
theorem d_BV_checkElse_28 : decode b_BV_checkElse 28 = .ok (.if_icmp .eq 8, 3) := by decide +kernel
theorem d_BV_checkElse_31 : decode b_BV_checkElse 31 = .ok (.aload_n 0, 1) := by decide +kernel
theorem d_BV_checkElse_32 : decode b_BV_checkElse 32 = .ok (.iconst 1, 1) := by decide +kernel
theorem d_BV_checkElse_33 : decode b_BV_checkElse 33 = .ok (.putfield 54, 3) := by decide +kernel
theorem d_BV_checkElse_36 : decode b_BV_checkElse 36 = .ok (.aload_n 0, 1) := by decide +kernel
theorem d_BV_checkElse_37 : decode b_BV_checkElse 37 = .ok (.getfield 29, 3) := by decide +kernel
theorem d_BV_checkElse_40 : decode b_BV_checkElse 40 = .ok (.iload_n 1, 1) := by decide +kernel
theorem d_BV_checkElse_41 : decode b_BV_checkElse 41 = .ok (.iconst 0, 1) := by decide +kernel
theorem d_BV_checkElse_42 : decode b_BV_checkElse 42 = .ok (.bastore, 1) := by decide +kernel
theorem d_BV_checkElse_43 : decode b_BV_checkElse 43 = .ok (.return_, 1) := by decide +kernel
theorem d_BV_closeBlock_0 : decode b_BV_closeBlock 0 = .ok (.aload_n 0, 1) := by decide +kernel
theorem d_BV_closeBlock_1 : decode b_BV_closeBlock 1 = .ok (.getfield 51, 3) := by decide +kernel
theorem d_BV_closeBlock_4 : decode b_BV_closeBlock 4 = .ok (.iconst 1, 1) := by decide +kernel
theorem d_BV_closeBlock_5 : decode b_BV_closeBlock 5 = .ok (.isub, 1) := by decide +kernel
theorem d_BV_closeBlock_6 : decode b_BV_closeBlock 6 = .ok (.istore_n 1, 1) := by decide +kernel
theorem d_BV_closeBlock_7 : decode b_BV_closeBlock 7 = .ok (.aload_n 0, 1) := by decide +kernel
theorem d_BV_closeBlock_8 : decode b_BV_closeBlock 8 = .ok (.getfield 17, 3) := by decide +kernel
theorem d_BV_closeBlock_11 : decode b_BV_closeBlock 11 = .ok (.iload_n 1, 1) := by decide +kernel
theorem d_BV_closeBlock_12 : decode b_BV_closeBlock 12 = .ok (.iaload, 1) := by decide +kernel
theorem d_BV_closeBlock_13 : decode b_BV_closeBlock 13 = .ok (.istore_n 2, 1) := by decide +kernel
theorem d_BV_closeBlock_14 : decode b_BV_closeBlock 14 = .ok (.aload_n 0, 1) := by decide +kernel
theorem d_BV_closeBlock_15 : decode b_BV_closeBlock 15 = .ok (.aload_n 0, 1) := by decide +kernel
theorem d_BV_closeBlock_16 : decode b_BV_closeBlock 16 = .ok (.getfield 23, 3) := by decide +kernel
theorem d_BV_closeBlock_19 : decode b_BV_closeBlock 19 = .ok (.iload_n 1, 1) := by decide +kernel
theorem d_BV_closeBlock_20 : decode b_BV_closeBlock 20 = .ok (.iaload, 1) := by decide +kernel
theorem d_BV_closeBlock_21 : decode b_BV_closeBlock 21 = .ok (.invokevirtual 86, 3) := by decide +kernel
theorem d_BV_closeBlock_24 : decode b_BV_closeBlock 24 = .ok (.pop, 1) := by decide +kernel
theorem d_BV_closeBlock_25 : decode b_BV_closeBlock 25 = .ok (.aload_n 0, 1) := by decide +kernel
theorem d_BV_closeBlock_26 : decode b_BV_closeBlock 26 = .ok (.getfield 48, 3) := by decide +kernel
theorem d_BV_closeBlock_29 : decode b_BV_closeBlock 29 = .ok (.aload_n 0, 1) := by decide +kernel
theorem d_BV_closeBlock_30 : decode b_BV_closeBlock 30 = .ok (.getfield 20, 3) := by decide +kernel
theorem d_BV_closeBlock_33 : decode b_BV_closeBlock 33 = .ok (.iload_n 1, 1) := by decide +kernel
theorem d_BV_closeBlock_34 : decode b_BV_closeBlock 34 = .ok (.iaload, 1) := by decide +kernel
theorem d_BV_closeBlock_35 : decode b_BV_closeBlock 35 = .ok (.if_icmp .eq 8, 3) := by decide +kernel
theorem d_BV_closeBlock_38 : decode b_BV_closeBlock 38 = .ok (.aload_n 0, 1) := by decide +kernel
theorem d_BV_closeBlock_39 : decode b_BV_closeBlock 39 = .ok (.iconst 1, 1) := by decide +kernel
theorem d_BV_closeBlock_40 : decode b_BV_closeBlock 40 = .ok (.putfield 54, 3) := by decide +kernel
theorem d_BV_closeBlock_43 : decode b_BV_closeBlock 43 = .ok (.iload_n 2, 1) := by decide +kernel
theorem d_BV_closeBlock_44 : decode b_BV_closeBlock 44 = .ok (.ifCond .lt 44, 3) := by decide +kernel
theorem d_BV_closeBlock_47 : decode b_BV_closeBlock 47 = .ok (.aload_n 0, 1) := by decide +kernel
theorem d_BV_closeBlock_48 : decode b_BV_closeBlock 48 = .ok (.getfield 43, 3) := by decide +kernel
theorem d_BV_closeBlock_51 : decode b_BV_closeBlock 51 = .ok (.getfield 74, 3) := by decide +kernel
theorem d_BV_closeBlock_54 : decode b_BV_closeBlock 54 = .ok (.iload_n 2, 1) := by decide +kernel
theorem d_BV_closeBlock_55 : decode b_BV_closeBlock 55 = .ok (.iaload, 1) := by decide +kernel
theorem d_BV_closeBlock_56 : decode b_BV_closeBlock 56 = .ok (.iconst 4, 1) := by decide +kernel
theorem d_BV_closeBlock_57 : decode b_BV_closeBlock 57 = .ok (.if_icmp .ne 31, 3) := by decide +kernel
theorem d_BV_closeBlock_60 : decode b_BV_closeBlock 60 = .ok (.aload_n 0, 1) := by decide +kernel
theorem d_BV_closeBlock_61 : decode b_BV_closeBlock 61 = .ok (.getfield 43, 3) := by decide +kernel
theorem d_BV_closeBlock_64 : decode b_BV_closeBlock 64 = .ok (.getfield 139, 3) := by decide +kernel
theorem d_BV_closeBlock_67 : decode b_BV_closeBlock 67 = .ok (.iload_n 2, 1) := by decide +kernel
theorem d_BV_closeBlock_68 : decode b_BV_closeBlock 68 = .ok (.iaload, 1) := by decide +kernel
theorem d_BV_closeBlock_69 : decode b_BV_closeBlock 69 = .ok (.ifCond .ge 19, 3) := by decide +kernel
theorem d_BV_closeBlock_72 : decode b_BV_closeBlock 72 = .ok (.aload_n 0, 1) := by decide +kernel
theorem d_BV_closeBlock_73 : decode b_BV_closeBlock 73 = .ok (.getfield 23, 3) := by decide +kernel
theorem d_BV_closeBlock_76 : decode b_BV_closeBlock 76 = .ok (.iload_n 1, 1) := by decide +kernel
theorem d_BV_closeBlock_77 : decode b_BV_closeBlock 77 = .ok (.iaload, 1) := by decide +kernel
theorem d_BV_closeBlock_78 : decode b_BV_closeBlock 78 = .ok (.bipush 64, 2) := by decide +kernel
theorem d_BV_closeBlock_80 : decode b_BV_closeBlock 80 = .ok (.if_icmp .eq 8, 3) := by decide +kernel
theorem d_BV_closeBlock_83 : decode b_BV_closeBlock 83 = .ok (.aload_n 0, 1) := by decide +kernel
theorem d_BV_closeBlock_84 : decode b_BV_closeBlock 84 = .ok (.iconst 1, 1) := by decide +kernel
theorem d_BV_closeBlock_85 : decode b_BV_closeBlock 85 = .ok (.putfield 54, 3) := by decide +kernel
theorem d_BV_closeBlock_88 : decode b_BV_closeBlock 88 = .ok (.aload_n 0, 1) := by decide +kernel
theorem d_BV_closeBlock_89 : decode b_BV_closeBlock 89 = .ok (.dup, 1) := by decide +kernel
theorem d_BV_closeBlock_90 : decode b_BV_closeBlock 90 = .ok (.getfield 51, 3) := by decide +kernel
theorem d_BV_closeBlock_93 : decode b_BV_closeBlock 93 = .ok (.iconst 1, 1) := by decide +kernel
theorem d_BV_closeBlock_94 : decode b_BV_closeBlock 94 = .ok (.isub, 1) := by decide +kernel
theorem d_BV_closeBlock_95 : decode b_BV_closeBlock 95 = .ok (.putfield 51, 3) := by decide +kernel
theorem d_BV_closeBlock_98 : decode b_BV_closeBlock 98 = .ok (.aload_n 0, 1) := by decide +kernel
theorem d_BV_closeBlock_99 : decode b_BV_closeBlock 99 = .ok (.aload_n 0, 1) := by decide +kernel
theorem d_BV_closeBlock_100 : decode b_BV_closeBlock 100 = .ok (.getfield 23, 3) := by decide +kernel
theorem d_BV_closeBlock_103 : decode b_BV_closeBlock 103 = .ok (.iload_n 1, 1) := by decide +kernel
theorem d_BV_closeBlock_104 : decode b_BV_closeBlock 104 = .ok (.iaload, 1) := by decide +kernel
theorem d_BV_closeBlock_105 : decode b_BV_closeBlock 105 = .ok (.invokevirtual 89, 3) := by decide +kernel
theorem d_BV_closeBlock_108 : decode b_BV_closeBlock 108 = .ok (.return_, 1) := by decide +kernel
theorem d_BV_levelOf_0 : decode b_BV_levelOf 0 = .ok (.lload_n 1, 1) := by decide +kernel
theorem d_BV_levelOf_1 : decode b_BV_levelOf 1 = .ok (.aload_n 0, 1) := by decide +kernel
theorem d_BV_levelOf_2 : decode b_BV_levelOf 2 = .ok (.getfield 51, 3) := by decide +kernel
theorem d_BV_levelOf_5 : decode b_BV_levelOf 5 = .ok (.i2l, 1) := by decide +kernel
theorem d_BV_levelOf_6 : decode b_BV_levelOf 6 = .ok (.lcmp, 1) := by decide +kernel
theorem d_BV_levelOf_7 : decode b_BV_levelOf 7 = .ok (.ifCond .ge 15, 3) := by decide +kernel
theorem d_BV_levelOf_10 : decode b_BV_levelOf 10 = .ok (.aload_n 0, 1) := by decide +kernel
theorem d_BV_levelOf_11 : decode b_BV_levelOf 11 = .ok (.getfield 51, 3) := by decide +kernel
theorem d_BV_levelOf_14 : decode b_BV_levelOf 14 = .ok (.iconst 1, 1) := by decide +kernel
theorem d_BV_levelOf_15 : decode b_BV_levelOf 15 = .ok (.isub, 1) := by decide +kernel
theorem d_BV_levelOf_16 : decode b_BV_levelOf 16 = .ok (.lload_n 1, 1) := by decide +kernel
theorem d_BV_levelOf_17 : decode b_BV_levelOf 17 = .ok (.l2i, 1) := by decide +kernel
theorem d_BV_levelOf_18 : decode b_BV_levelOf 18 = .ok (.isub, 1) := by decide +kernel
theorem d_BV_levelOf_19 : decode b_BV_levelOf 19 = .ok (.goto 4, 3) := by decide +kernel
theorem d_BV_levelOf_22 : decode b_BV_levelOf 22 = .ok (.iconst (-1), 1) := by decide +kernel
theorem d_BV_levelOf_23 : decode b_BV_levelOf 23 = .ok (.ireturn, 1) := by decide +kernel
theorem d_BV_checkBranch_0 : decode b_BV_checkBranch 0 = .ok (.iload_n 1, 1) := by decide +kernel
theorem d_BV_checkBranch_1 : decode b_BV_checkBranch 1 = .ok (.bipush 13, 2) := by decide +kernel
theorem d_BV_checkBranch_3 : decode b_BV_checkBranch 3 = .ok (.if_icmp .ne 10, 3) := by decide +kernel
theorem d_BV_checkBranch_6 : decode b_BV_checkBranch 6 = .ok (.aload_n 0, 1) := by decide +kernel
theorem d_BV_checkBranch_7 : decode b_BV_checkBranch 7 = .ok (.bipush 127, 2) := by decide +kernel
theorem d_BV_checkBranch_9 : decode b_BV_checkBranch 9 = .ok (.invokevirtual 86, 3) := by decide +kernel
theorem d_BV_checkBranch_12 : decode b_BV_checkBranch 12 = .ok (.pop, 1) := by decide +kernel
theorem d_BV_checkBranch_13 : decode b_BV_checkBranch 13 = .ok (.aload_n 0, 1) := by decide +kernel
theorem d_BV_checkBranch_14 : decode b_BV_checkBranch 14 = .ok (.aload_n 0, 1) := by decide +kernel
theorem d_BV_checkBranch_15 : decode b_BV_checkBranch 15 = .ok (.getfield 43, 3) := by decide +kernel
theorem d_BV_checkBranch_18 : decode b_BV_checkBranch 18 = .ok (.getfield 93, 3) := by decide +kernel
theorem d_BV_checkBranch_21 : decode b_BV_checkBranch 21 = .ok (.iload_n 2, 1) := by decide +kernel
theorem d_BV_checkBranch_22 : decode b_BV_checkBranch 22 = .ok (.laload, 1) := by decide +kernel
theorem d_BV_checkBranch_23 : decode b_BV_checkBranch 23 = .ok (.invokevirtual 142, 3) := by decide +kernel
theorem d_BV_checkBranch_26 : decode b_BV_checkBranch 26 = .ok (.istore_n 3, 1) := by decide +kernel
theorem d_BV_checkBranch_27 : decode b_BV_checkBranch 27 = .ok (.iload_n 3, 1) := by decide +kernel
theorem d_BV_checkBranch_28 : decode b_BV_checkBranch 28 = .ok (.ifCond .ge 9, 3) := by decide +kernel
theorem d_BV_checkBranch_31 : decode b_BV_checkBranch 31 = .ok (.aload_n 0, 1) := by decide +kernel
theorem d_BV_checkBranch_32 : decode b_BV_checkBranch 32 = .ok (.iconst 1, 1) := by decide +kernel
theorem d_BV_checkBranch_33 : decode b_BV_checkBranch 33 = .ok (.putfield 54, 3) := by decide +kernel
theorem d_BV_checkBranch_36 : decode b_BV_checkBranch 36 = .ok (.return_, 1) := by decide +kernel
theorem d_BV_checkBranch_37 : decode b_BV_checkBranch 37 = .ok (.aload_n 0, 1) := by decide +kernel
theorem d_BV_checkBranch_38 : decode b_BV_checkBranch 38 = .ok (.getfield 43, 3) := by decide +kernel
theorem d_BV_checkBranch_41 : decode b_BV_checkBranch 41 = .ok (.getfield 146, 3) := by decide +kernel
theorem d_BV_checkBranch_44 : decode b_BV_checkBranch 44 = .ok (.iload_n 2, 1) := by decide +kernel
theorem d_BV_checkBranch_45 : decode b_BV_checkBranch 45 = .ok (.aload_n 0, 1) := by decide +kernel
theorem d_BV_checkBranch_46 : decode b_BV_checkBranch 46 = .ok (.getfield 17, 3) := by decide +kernel
theorem d_BV_checkBranch_49 : decode b_BV_checkBranch 49 = .ok (.iload_n 3, 1) := by decide +kernel
theorem d_BV_checkBranch_50 : decode b_BV_checkBranch 50 = .ok (.iaload, 1) := by decide +kernel
theorem d_BV_checkBranch_51 : decode b_BV_checkBranch 51 = .ok (.iastore, 1) := by decide +kernel
theorem d_BV_checkBranch_52 : decode b_BV_checkBranch 52 = .ok (.aload_n 0, 1) := by decide +kernel
theorem d_BV_checkBranch_53 : decode b_BV_checkBranch 53 = .ok (.aload_n 0, 1) := by decide +kernel
theorem d_BV_checkBranch_54 : decode b_BV_checkBranch 54 = .ok (.getfield 26, 3) := by decide +kernel
theorem d_BV_checkBranch_57 : decode b_BV_checkBranch 57 = .ok (.iload_n 3, 1) := by decide +kernel
theorem d_BV_checkBranch_58 : decode b_BV_checkBranch 58 = .ok (.iaload, 1) := by decide +kernel
theorem d_BV_checkBranch_59 : decode b_BV_checkBranch 59 = .ok (.invokevirtual 86, 3) := by decide +kernel
theorem d_BV_checkBranch_62 : decode b_BV_checkBranch 62 = .ok (.pop, 1) := by decide +kernel
theorem d_BV_checkBranch_63 : decode b_BV_checkBranch 63 = .ok (.iload_n 1, 1) := by decide +kernel
theorem d_BV_checkBranch_64 : decode b_BV_checkBranch 64 = .ok (.bipush 13, 2) := by decide +kernel
theorem d_BV_checkBranch_66 : decode b_BV_checkBranch 66 = .ok (.if_icmp .ne 16, 3) := by decide +kernel
theorem d_BV_checkBranch_69 : decode b_BV_checkBranch 69 = .ok (.aload_n 0, 1) := by decide +kernel
theorem d_BV_checkBranch_70 : decode b_BV_checkBranch 70 = .ok (.aload_n 0, 1) := by decide +kernel
theorem d_BV_checkBranch_71 : decode b_BV_checkBranch 71 = .ok (.getfield 26, 3) := by decide +kernel
theorem d_BV_checkBranch_74 : decode b_BV_checkBranch 74 = .ok (.iload_n 3, 1) := by decide +kernel
theorem d_BV_checkBranch_75 : decode b_BV_checkBranch 75 = .ok (.iaload, 1) := by decide +kernel
theorem d_BV_checkBranch_76 : decode b_BV_checkBranch 76 = .ok (.invokevirtual 89, 3) := by decide +kernel
theorem d_BV_checkBranch_79 : decode b_BV_checkBranch 79 = .ok (.goto 7, 3) := by decide +kernel
theorem d_BV_checkBranch_82 : decode b_BV_checkBranch 82 = .ok (.aload_n 0, 1) := by decide +kernel
theorem d_BV_checkBranch_83 : decode b_BV_checkBranch 83 = .ok (.invokevirtual 114, 3) := by decide +kernel
theorem d_BV_checkBranch_86 : decode b_BV_checkBranch 86 = .ok (.return_, 1) := by decide +kernel
theorem d_BV_checkTable_0 : decode b_BV_checkTable 0 = .ok (.aload_n 0, 1) := by decide +kernel
theorem d_BV_checkTable_1 : decode b_BV_checkTable 1 = .ok (.getfield 43, 3) := by decide +kernel
theorem d_BV_checkTable_4 : decode b_BV_checkTable 4 = .ok (.getfield 117, 3) := by decide +kernel
theorem d_BV_checkTable_7 : decode b_BV_checkTable 7 = .ok (.iload_n 1, 1) := by decide +kernel
theorem d_BV_checkTable_8 : decode b_BV_checkTable 8 = .ok (.iaload, 1) := by decide +kernel
theorem d_BV_checkTable_9 : decode b_BV_checkTable 9 = .ok (.istore_n 2, 1) := by decide +kernel
theorem d_BV_checkTable_10 : decode b_BV_checkTable 10 = .ok (.iload_n 2, 1) := by decide +kernel
theorem d_BV_checkTable_11 : decode b_BV_checkTable 11 = .ok (.aload_n 0, 1) := by decide +kernel
theorem d_BV_checkTable_12 : decode b_BV_checkTable 12 = .ok (.getfield 43, 3) := by decide +kernel
theorem d_BV_checkTable_15 : decode b_BV_checkTable 15 = .ok (.getfield 93, 3) := by decide +kernel
theorem d_BV_checkTable_18 : decode b_BV_checkTable 18 = .ok (.iload_n 1, 1) := by decide +kernel
theorem d_BV_checkTable_19 : decode b_BV_checkTable 19 = .ok (.laload, 1) := by decide +kernel
theorem d_BV_checkTable_20 : decode b_BV_checkTable 20 = .ok (.l2i, 1) := by decide +kernel
theorem d_BV_checkTable_21 : decode b_BV_checkTable 21 = .ok (.iadd, 1) := by decide +kernel
theorem d_BV_checkTable_22 : decode b_BV_checkTable 22 = .ok (.istore_n 3, 1) := by decide +kernel
theorem d_BV_checkTable_23 : decode b_BV_checkTable 23 = .ok (.aload_n 0, 1) := by decide +kernel
theorem d_BV_checkTable_24 : decode b_BV_checkTable 24 = .ok (.aload_n 0, 1) := by decide +kernel
theorem d_BV_checkTable_25 : decode b_BV_checkTable 25 = .ok (.getfield 43, 3) := by decide +kernel
theorem d_BV_checkTable_28 : decode b_BV_checkTable 28 = .ok (.getfield 149, 3) := by decide +kernel
theorem d_BV_checkTable_31 : decode b_BV_checkTable 31 = .ok (.iload_n 3, 1) := by decide +kernel
theorem d_BV_checkTable_32 : decode b_BV_checkTable 32 = .ok (.iaload, 1) := by decide +kernel
theorem d_BV_checkTable_33 : decode b_BV_checkTable 33 = .ok (.i2l, 1) := by decide +kernel
theorem d_BV_checkTable_34 : decode b_BV_checkTable 34 = .ok (.invokevirtual 142, 3) := by decide +kernel
theorem d_BV_checkTable_37 : decode b_BV_checkTable 37 = .ok (.istore 4, 2) := by decide +kernel
theorem d_BV_checkTable_39 : decode b_BV_checkTable 39 = .ok (.iload_n 2, 1) := by decide +kernel
theorem d_BV_checkTable_40 : decode b_BV_checkTable 40 = .ok (.istore 5, 2) := by decide +kernel
theorem d_BV_checkTable_42 : decode b_BV_checkTable 42 = .ok (.iload 5, 2) := by decide +kernel
theorem d_BV_checkTable_44 : decode b_BV_checkTable 44 = .ok (.iload_n 3, 1) := by decide +kernel
theorem d_BV_checkTable_45 : decode b_BV_checkTable 45 = .ok (.if_icmp .gt 76, 3) := by decide +kernel
theorem d_BV_checkTable_48 : decode b_BV_checkTable 48 = .ok (.aload_n 0, 1) := by decide +kernel
theorem d_BV_checkTable_49 : decode b_BV_checkTable 49 = .ok (.aload_n 0, 1) := by decide +kernel
theorem d_BV_checkTable_50 : decode b_BV_checkTable 50 = .ok (.getfield 43, 3) := by decide +kernel
theorem d_BV_checkTable_53 : decode b_BV_checkTable 53 = .ok (.getfield 149, 3) := by decide +kernel
theorem d_BV_checkTable_56 : decode b_BV_checkTable 56 = .ok (.iload 5, 2) := by decide +kernel
theorem d_BV_checkTable_58 : decode b_BV_checkTable 58 = .ok (.iaload, 1) := by decide +kernel
theorem d_BV_checkTable_59 : decode b_BV_checkTable 59 = .ok (.i2l, 1) := by decide +kernel
theorem d_BV_checkTable_60 : decode b_BV_checkTable 60 = .ok (.invokevirtual 142, 3) := by decide +kernel
theorem d_BV_checkTable_63 : decode b_BV_checkTable 63 = .ok (.istore 6, 2) := by decide +kernel
theorem d_BV_checkTable_65 : decode b_BV_checkTable 65 = .ok (.iload 6, 2) := by decide +kernel
theorem d_BV_checkTable_67 : decode b_BV_checkTable 67 = .ok (.ifCond .lt 25, 3) := by decide +kernel
theorem d_BV_checkTable_70 : decode b_BV_checkTable 70 = .ok (.iload 4, 2) := by decide +kernel
theorem d_BV_checkTable_72 : decode b_BV_checkTable 72 = .ok (.ifCond .lt 20, 3) := by decide +kernel
theorem d_BV_checkTable_75 : decode b_BV_checkTable 75 = .ok (.aload_n 0, 1) := by decide +kernel
theorem d_BV_checkTable_76 : decode b_BV_checkTable 76 = .ok (.getfield 26, 3) := by decide +kernel
theorem d_BV_checkTable_79 : decode b_BV_checkTable 79 = .ok (.iload 6, 2) := by decide +kernel
theorem d_BV_checkTable_81 : decode b_BV_checkTable 81 = .ok (.iaload, 1) := by decide +kernel
theorem d_BV_checkTable_82 : decode b_BV_checkTable 82 = .ok (.aload_n 0, 1) := by decide +kernel
theorem d_BV_checkTable_83 : decode b_BV_checkTable 83 = .ok (.getfield 26, 3) := by decide +kernel
theorem d_BV_checkTable_86 : decode b_BV_checkTable 86 = .ok (.iload 4, 2) := by decide +kernel
theorem d_BV_checkTable_88 : decode b_BV_checkTable 88 = .ok (.iaload, 1) := by decide +kernel
theorem d_BV_checkTable_89 : decode b_BV_checkTable 89 = .ok (.if_icmp .eq 9, 3) := by decide +kernel
theorem d_BV_checkTable_92 : decode b_BV_checkTable 92 = .ok (.aload_n 0, 1) := by decide +kernel
theorem d_BV_checkTable_93 : decode b_BV_checkTable 93 = .ok (.iconst 1, 1) := by decide +kernel
theorem d_BV_checkTable_94 : decode b_BV_checkTable 94 = .ok (.putfield 54, 3) := by decide +kernel
theorem d_BV_checkTable_97 : decode b_BV_checkTable 97 = .ok (.return_, 1) := by decide +kernel
theorem d_BV_checkTable_98 : decode b_BV_checkTable 98 = .ok (.aload_n 0, 1) := by decide +kernel
theorem d_BV_checkTable_99 : decode b_BV_checkTable 99 = .ok (.getfield 43, 3) := by decide +kernel
theorem d_BV_checkTable_102 : decode b_BV_checkTable 102 = .ok (.getfield 152, 3) := by decide +kernel
theorem d_BV_checkTable_105 : decode b_BV_checkTable 105 = .ok (.iload 5, 2) := by decide +kernel
theorem d_BV_checkTable_107 : decode b_BV_checkTable 107 = .ok (.aload_n 0, 1) := by decide +kernel
theorem d_BV_checkTable_108 : decode b_BV_checkTable 108 = .ok (.getfield 17, 3) := by decide +kernel
theorem d_BV_checkTable_111 : decode b_BV_checkTable 111 = .ok (.iload 6, 2) := by decide +kernel
theorem d_BV_checkTable_113 : decode b_BV_checkTable 113 = .ok (.iaload, 1) := by decide +kernel
theorem d_BV_checkTable_114 : decode b_BV_checkTable 114 = .ok (.iastore, 1) := by decide +kernel
theorem d_BV_checkTable_115 : decode b_BV_checkTable 115 = .ok (.iinc 5 1, 3) := by decide +kernel
theorem d_BV_checkTable_118 : decode b_BV_checkTable 118 = .ok (.goto (-76), 3) := by decide +kernel
theorem d_BV_checkTable_121 : decode b_BV_checkTable 121 = .ok (.aload_n 0, 1) := by decide +kernel
theorem d_BV_checkTable_122 : decode b_BV_checkTable 122 = .ok (.bipush 127, 2) := by decide +kernel
theorem d_BV_checkTable_124 : decode b_BV_checkTable 124 = .ok (.invokevirtual 86, 3) := by decide +kernel
theorem d_BV_checkTable_127 : decode b_BV_checkTable 127 = .ok (.pop, 1) := by decide +kernel
theorem d_BV_checkTable_128 : decode b_BV_checkTable 128 = .ok (.aload_n 0, 1) := by decide +kernel
theorem d_BV_checkTable_129 : decode b_BV_checkTable 129 = .ok (.aload_n 0, 1) := by decide +kernel
theorem d_BV_checkTable_130 : decode b_BV_checkTable 130 = .ok (.getfield 26, 3) := by decide +kernel
theorem d_BV_checkTable_133 : decode b_BV_checkTable 133 = .ok (.iload 4, 2) := by decide +kernel
theorem d_BV_checkTable_135 : decode b_BV_checkTable 135 = .ok (.iaload, 1) := by decide +kernel
theorem d_BV_checkTable_136 : decode b_BV_checkTable 136 = .ok (.invokevirtual 86, 3) := by decide +kernel
theorem d_BV_checkTable_139 : decode b_BV_checkTable 139 = .ok (.pop, 1) := by decide +kernel
theorem d_BV_checkTable_140 : decode b_BV_checkTable 140 = .ok (.aload_n 0, 1) := by decide +kernel
theorem d_BV_checkTable_141 : decode b_BV_checkTable 141 = .ok (.invokevirtual 114, 3) := by decide +kernel
theorem d_BV_checkTable_144 : decode b_BV_checkTable 144 = .ok (.return_, 1) := by decide +kernel
theorem d_BV_checkCall_0 : decode b_BV_checkCall 0 = .ok (.lload_n 1, 1) := by decide +kernel
theorem d_BV_checkCall_1 : decode b_BV_checkCall 1 = .ok (.aload_n 0, 1) := by decide +kernel
theorem d_BV_checkCall_2 : decode b_BV_checkCall 2 = .ok (.getfield 33, 3) := by decide +kernel
theorem d_BV_checkCall_5 : decode b_BV_checkCall 5 = .ok (.getfield 155, 3) := by decide +kernel
theorem d_BV_checkCall_8 : decode b_BV_checkCall 8 = .ok (.i2l, 1) := by decide +kernel
theorem d_BV_checkCall_9 : decode b_BV_checkCall 9 = .ok (.lcmp, 1) := by decide +kernel
theorem d_BV_checkCall_10 : decode b_BV_checkCall 10 = .ok (.ifCond .lt 9, 3) := by decide +kernel
theorem d_BV_checkCall_13 : decode b_BV_checkCall 13 = .ok (.aload_n 0, 1) := by decide +kernel
theorem d_BV_checkCall_14 : decode b_BV_checkCall 14 = .ok (.iconst 1, 1) := by decide +kernel
theorem d_BV_checkCall_15 : decode b_BV_checkCall 15 = .ok (.putfield 54, 3) := by decide +kernel
theorem d_BV_checkCall_18 : decode b_BV_checkCall 18 = .ok (.return_, 1) := by decide +kernel
theorem d_BV_checkCall_19 : decode b_BV_checkCall 19 = .ok (.lload_n 1, 1) := by decide +kernel
theorem d_BV_checkCall_20 : decode b_BV_checkCall 20 = .ok (.l2i, 1) := by decide +kernel
theorem d_BV_checkCall_21 : decode b_BV_checkCall 21 = .ok (.istore_n 3, 1) := by decide +kernel
theorem d_BV_checkCall_22 : decode b_BV_checkCall 22 = .ok (.aload_n 0, 1) := by decide +kernel
theorem d_BV_checkCall_23 : decode b_BV_checkCall 23 = .ok (.getfield 33, 3) := by decide +kernel
theorem d_BV_checkCall_26 : decode b_BV_checkCall 26 = .ok (.iload_n 3, 1) := by decide +kernel
theorem d_BV_checkCall_27 : decode b_BV_checkCall 27 = .ok (.invokevirtual 158, 3) := by decide +kernel
theorem d_BV_checkCall_30 : decode b_BV_checkCall 30 = .ok (.iconst 1, 1) := by decide +kernel
theorem d_BV_checkCall_31 : decode b_BV_checkCall 31 = .ok (.isub, 1) := by decide +kernel
theorem d_BV_checkCall_32 : decode b_BV_checkCall 32 = .ok (.istore 4, 2) := by decide +kernel
theorem d_BV_checkCall_34 : decode b_BV_checkCall 34 = .ok (.iload 4, 2) := by decide +kernel
theorem d_BV_checkCall_36 : decode b_BV_checkCall 36 = .ok (.ifCond .lt 24, 3) := by decide +kernel
theorem d_BV_checkCall_39 : decode b_BV_checkCall 39 = .ok (.aload_n 0, 1) := by decide +kernel
theorem d_BV_checkCall_40 : decode b_BV_checkCall 40 = .ok (.aload_n 0, 1) := by decide +kernel
theorem d_BV_checkCall_41 : decode b_BV_checkCall 41 = .ok (.getfield 33, 3) := by decide +kernel
theorem d_BV_checkCall_44 : decode b_BV_checkCall 44 = .ok (.iload_n 3, 1) := by decide +kernel
theorem d_BV_checkCall_45 : decode b_BV_checkCall 45 = .ok (.iload 4, 2) := by decide +kernel
theorem d_BV_checkCall_47 : decode b_BV_checkCall 47 = .ok (.invokevirtual 161, 3) := by decide +kernel
theorem d_BV_checkCall_50 : decode b_BV_checkCall 50 = .ok (.invokevirtual 86, 3) := by decide +kernel
theorem d_BV_checkCall_53 : decode b_BV_checkCall 53 = .ok (.pop, 1) := by decide +kernel
theorem d_BV_checkCall_54 : decode b_BV_checkCall 54 = .ok (.iinc 4 (-1), 3) := by decide +kernel
theorem d_BV_checkCall_57 : decode b_BV_checkCall 57 = .ok (.goto (-23), 3) := by decide +kernel
theorem d_BV_checkCall_60 : decode b_BV_checkCall 60 = .ok (.aload_n 0, 1) := by decide +kernel
theorem d_BV_checkCall_61 : decode b_BV_checkCall 61 = .ok (.aload_n 0, 1) := by decide +kernel
theorem d_BV_checkCall_62 : decode b_BV_checkCall 62 = .ok (.getfield 33, 3) := by decide +kernel
theorem d_BV_checkCall_65 : decode b_BV_checkCall 65 = .ok (.iload_n 3, 1) := by decide +kernel
theorem d_BV_checkCall_66 : decode b_BV_checkCall 66 = .ok (.invokevirtual 58, 3) := by decide +kernel
theorem d_BV_checkCall_69 : decode b_BV_checkCall 69 = .ok (.invokevirtual 89, 3) := by decide +kernel
theorem d_BV_checkCall_72 : decode b_BV_checkCall 72 = .ok (.return_, 1) := by decide +kernel
theorem d_BV_checkLocal_0 : decode b_BV_checkLocal 0 = .ok (.iload_n 2, 1) := by decide +kernel
theorem d_BV_checkLocal_1 : decode b_BV_checkLocal 1 = .ok (.bipush 64, 2) := by decide +kernel
theorem d_BV_checkLocal_3 : decode b_BV_checkLocal 3 = .ok (.if_icmp .ne 9, 3) := by decide +kernel
theorem d_BV_checkLocal_6 : decode b_BV_checkLocal 6 = .ok (.aload_n 0, 1) := by decide +kernel
theorem d_BV_checkLocal_7 : decode b_BV_checkLocal 7 = .ok (.iconst 1, 1) := by decide +kernel
theorem d_BV_checkLocal_8 : decode b_BV_checkLocal 8 = .ok (.putfield 54, 3) := by decide +kernel
theorem d_BV_checkLocal_11 : decode b_BV_checkLocal 11 = .ok (.return_, 1) := by decide +kernel
theorem d_BV_checkLocal_12 : decode b_BV_checkLocal 12 = .ok (.iload_n 1, 1) := by decide +kernel
theorem d_BV_checkLocal_13 : decode b_BV_checkLocal 13 = .ok (.bipush 32, 2) := by decide +kernel
theorem d_BV_checkLocal_15 : decode b_BV_checkLocal 15 = .ok (.if_icmp .eq 9, 3) := by decide +kernel
theorem d_BV_checkLocal_18 : decode b_BV_checkLocal 18 = .ok (.aload_n 0, 1) := by decide +kernel
theorem d_BV_checkLocal_19 : decode b_BV_checkLocal 19 = .ok (.iload_n 2, 1) := by decide +kernel
theorem d_BV_checkLocal_20 : decode b_BV_checkLocal 20 = .ok (.invokevirtual 86, 3) := by decide +kernel
theorem d_BV_checkLocal_23 : decode b_BV_checkLocal 23 = .ok (.pop, 1) := by decide +kernel
theorem d_BV_checkLocal_24 : decode b_BV_checkLocal 24 = .ok (.iload_n 1, 1) := by decide +kernel
theorem d_BV_checkLocal_25 : decode b_BV_checkLocal 25 = .ok (.bipush 33, 2) := by decide +kernel
theorem d_BV_checkLocal_27 : decode b_BV_checkLocal 27 = .ok (.if_icmp .eq 8, 3) := by decide +kernel
theorem d_BV_checkLocal_30 : decode b_BV_checkLocal 30 = .ok (.aload_n 0, 1) := by decide +kernel
theorem d_BV_checkLocal_31 : decode b_BV_checkLocal 31 = .ok (.iload_n 2, 1) := by decide +kernel
theorem d_BV_checkLocal_32 : decode b_BV_checkLocal 32 = .ok (.invokevirtual 89, 3) := by decide +kernel
theorem d_BV_checkLocal_35 : decode b_BV_checkLocal 35 = .ok (.return_, 1) := by decide +kernel
theorem d_BV_checkGlobal_0 : decode b_BV_checkGlobal 0 = .ok (.lload_n 2, 1) := by decide +kernel
theorem d_BV_checkGlobal_1 : decode b_BV_checkGlobal 1 = .ok (.aload_n 0, 1) := by decide +kernel
theorem d_BV_checkGlobal_2 : decode b_BV_checkGlobal 2 = .ok (.getfield 33, 3) := by decide +kernel
theorem d_BV_checkGlobal_5 : decode b_BV_checkGlobal 5 = .ok (.getfield 165, 3) := by decide +kernel
theorem d_BV_checkGlobal_8 : decode b_BV_checkGlobal 8 = .ok (.i2l, 1) := by decide +kernel
theorem d_BV_checkGlobal_9 : decode b_BV_checkGlobal 9 = .ok (.lcmp, 1) := by decide +kernel
theorem d_BV_checkGlobal_10 : decode b_BV_checkGlobal 10 = .ok (.ifCond .lt 9, 3) := by decide +kernel
theorem d_BV_checkGlobal_13 : decode b_BV_checkGlobal 13 = .ok (.aload_n 0, 1) := by decide +kernel
theorem d_BV_checkGlobal_14 : decode b_BV_checkGlobal 14 = .ok (.iconst 1, 1) := by decide +kernel
theorem d_BV_checkGlobal_15 : decode b_BV_checkGlobal 15 = .ok (.putfield 54, 3) := by decide +kernel
theorem d_BV_checkGlobal_18 : decode b_BV_checkGlobal 18 = .ok (.return_, 1) := by decide +kernel
theorem d_BV_checkGlobal_19 : decode b_BV_checkGlobal 19 = .ok (.lload_n 2, 1) := by decide +kernel
theorem d_BV_checkGlobal_20 : decode b_BV_checkGlobal 20 = .ok (.l2i, 1) := by decide +kernel
theorem d_BV_checkGlobal_21 : decode b_BV_checkGlobal 21 = .ok (.istore 4, 2) := by decide +kernel
theorem d_BV_checkGlobal_23 : decode b_BV_checkGlobal 23 = .ok (.iload_n 1, 1) := by decide +kernel
theorem d_BV_checkGlobal_24 : decode b_BV_checkGlobal 24 = .ok (.bipush 35, 2) := by decide +kernel
theorem d_BV_checkGlobal_26 : decode b_BV_checkGlobal 26 = .ok (.if_icmp .ne 18, 3) := by decide +kernel
theorem d_BV_checkGlobal_29 : decode b_BV_checkGlobal 29 = .ok (.aload_n 0, 1) := by decide +kernel
theorem d_BV_checkGlobal_30 : decode b_BV_checkGlobal 30 = .ok (.aload_n 0, 1) := by decide +kernel
theorem d_BV_checkGlobal_31 : decode b_BV_checkGlobal 31 = .ok (.getfield 33, 3) := by decide +kernel
theorem d_BV_checkGlobal_34 : decode b_BV_checkGlobal 34 = .ok (.getfield 168, 3) := by decide +kernel
theorem d_BV_checkGlobal_37 : decode b_BV_checkGlobal 37 = .ok (.iload 4, 2) := by decide +kernel
theorem d_BV_checkGlobal_39 : decode b_BV_checkGlobal 39 = .ok (.iaload, 1) := by decide +kernel
theorem d_BV_checkGlobal_40 : decode b_BV_checkGlobal 40 = .ok (.invokevirtual 89, 3) := by decide +kernel
theorem d_BV_checkGlobal_43 : decode b_BV_checkGlobal 43 = .ok (.return_, 1) := by decide +kernel
theorem d_BV_checkGlobal_44 : decode b_BV_checkGlobal 44 = .ok (.aload_n 0, 1) := by decide +kernel
theorem d_BV_checkGlobal_45 : decode b_BV_checkGlobal 45 = .ok (.getfield 33, 3) := by decide +kernel
theorem d_BV_checkGlobal_48 : decode b_BV_checkGlobal 48 = .ok (.getfield 171, 3) := by decide +kernel
theorem d_BV_checkGlobal_51 : decode b_BV_checkGlobal 51 = .ok (.iload 4, 2) := by decide +kernel
theorem d_BV_checkGlobal_53 : decode b_BV_checkGlobal 53 = .ok (.baload, 1) := by decide +kernel
theorem d_BV_checkGlobal_54 : decode b_BV_checkGlobal 54 = .ok (.ifCond .ne 8, 3) := by decide +kernel
theorem d_BV_checkGlobal_57 : decode b_BV_checkGlobal 57 = .ok (.aload_n 0, 1) := by decide +kernel
theorem d_BV_checkGlobal_58 : decode b_BV_checkGlobal 58 = .ok (.iconst 1, 1) := by decide +kernel
theorem d_BV_checkGlobal_59 : decode b_BV_checkGlobal 59 = .ok (.putfield 54, 3) := by decide +kernel
theorem d_BV_checkGlobal_62 : decode b_BV_checkGlobal 62 = .ok (.aload_n 0, 1) := by decide +kernel
theorem d_BV_checkGlobal_63 : decode b_BV_checkGlobal 63 = .ok (.aload_n 0, 1) := by decide +kernel
theorem d_BV_checkGlobal_64 : decode b_BV_checkGlobal 64 = .ok (.getfield 33, 3) := by decide +kernel
theorem d_BV_checkGlobal_67 : decode b_BV_checkGlobal 67 = .ok (.getfield 168, 3) := by decide +kernel
theorem d_BV_checkGlobal_70 : decode b_BV_checkGlobal 70 = .ok (.iload 4, 2) := by decide +kernel
theorem d_BV_checkGlobal_72 : decode b_BV_checkGlobal 72 = .ok (.iaload, 1) := by decide +kernel
theorem d_BV_checkGlobal_73 : decode b_BV_checkGlobal 73 = .ok (.invokevirtual 86, 3) := by decide +kernel
theorem d_BV_checkGlobal_76 : decode b_BV_checkGlobal 76 = .ok (.pop, 1) := by decide +kernel
theorem d_BV_checkGlobal_77 : decode b_BV_checkGlobal 77 = .ok (.return_, 1) := by decide +kernel
theorem d_BV_checkAccess_0 : decode b_BV_checkAccess 0 = .ok (.iload_n 1, 1) := by decide +kernel
theorem d_BV_checkAccess_1 : decode b_BV_checkAccess 1 = .ok (.invokestatic 180, 3) := by decide +kernel
theorem d_BV_checkAccess_4 : decode b_BV_checkAccess 4 = .ok (.istore_n 3, 1) := by decide +kernel
theorem d_BV_checkAccess_5 : decode b_BV_checkAccess 5 = .ok (.iload_n 2, 1) := by decide +kernel
theorem d_BV_checkAccess_6 : decode b_BV_checkAccess 6 = .ok (.iconst 3, 1) := by decide +kernel
theorem d_BV_checkAccess_7 : decode b_BV_checkAccess 7 = .ok (.if_icmp .gt 10, 3) := by decide +kernel
theorem d_BV_checkAccess_10 : decode b_BV_checkAccess 10 = .ok (.iconst 1, 1) := by decide +kernel
theorem d_BV_checkAccess_11 : decode b_BV_checkAccess 11 = .ok (.iload_n 2, 1) := by decide +kernel
theorem d_BV_checkAccess_12 : decode b_BV_checkAccess 12 = .ok (.ishl, 1) := by decide +kernel
theorem d_BV_checkAccess_13 : decode b_BV_checkAccess 13 = .ok (.iload_n 3, 1) := by decide +kernel
theorem d_BV_checkAccess_14 : decode b_BV_checkAccess 14 = .ok (.if_icmp .le 8, 3) := by decide +kernel
theorem d_BV_checkAccess_17 : decode b_BV_checkAccess 17 = .ok (.aload_n 0, 1) := by decide +kernel
theorem d_BV_checkAccess_18 : decode b_BV_checkAccess 18 = .ok (.iconst 1, 1) := by decide +kernel
theorem d_BV_checkAccess_19 : decode b_BV_checkAccess 19 = .ok (.putfield 54, 3) := by decide +kernel
theorem d_BV_checkAccess_22 : decode b_BV_checkAccess 22 = .ok (.iload_n 3, 1) := by decide +kernel
theorem d_BV_checkAccess_23 : decode b_BV_checkAccess 23 = .ok (.bipush 8, 2) := by decide +kernel
theorem d_BV_checkAccess_25 : decode b_BV_checkAccess 25 = .ok (.if_icmp .ne 8, 3) := by decide +kernel
theorem d_BV_checkAccess_28 : decode b_BV_checkAccess 28 = .ok (.bipush 126, 2) := by decide +kernel
theorem d_BV_checkAccess_30 : decode b_BV_checkAccess 30 = .ok (.goto 5, 3) := by decide +kernel
theorem d_BV_checkAccess_33 : decode b_BV_checkAccess 33 = .ok (.bipush 127, 2) := by decide +kernel
theorem d_BV_checkAccess_35 : decode b_BV_checkAccess 35 = .ok (.istore 4, 2) := by decide +kernel
theorem d_BV_checkAccess_37 : decode b_BV_checkAccess 37 = .ok (.iload_n 1, 1) := by decide +kernel
theorem d_BV_checkAccess_38 : decode b_BV_checkAccess 38 = .ok (.invokestatic 183, 3) := by decide +kernel
theorem d_BV_checkAccess_41 : decode b_BV_checkAccess 41 = .ok (.ifCond .eq 19, 3) := by decide +kernel
theorem d_BV_checkAccess_44 : decode b_BV_checkAccess 44 = .ok (.aload_n 0, 1) := by decide +kernel
theorem d_BV_checkAccess_45 : decode b_BV_checkAccess 45 = .ok (.bipush 127, 2) := by decide +kernel
theorem d_BV_checkAccess_47 : decode b_BV_checkAccess 47 = .ok (.invokevirtual 86, 3) := by decide +kernel
theorem d_BV_checkAccess_50 : decode b_BV_checkAccess 50 = .ok (.pop, 1) := by decide +kernel
theorem d_BV_checkAccess_51 : decode b_BV_checkAccess 51 = .ok (.aload_n 0, 1) := by decide +kernel
theorem d_BV_checkAccess_52 : decode b_BV_checkAccess 52 = .ok (.iload 4, 2) := by decide +kernel
theorem d_BV_checkAccess_54 : decode b_BV_checkAccess 54 = .ok (.invokevirtual 89, 3) := by decide +kernel
theorem d_BV_checkAccess_57 : decode b_BV_checkAccess 57 = .ok (.goto 17, 3) := by decide +kernel
theorem d_BV_checkAccess_60 : decode b_BV_checkAccess 60 = .ok (.aload_n 0, 1) := by decide +kernel
theorem d_BV_checkAccess_61 : decode b_BV_checkAccess 61 = .ok (.iload 4, 2) := by decide +kernel
theorem d_BV_checkAccess_63 : decode b_BV_checkAccess 63 = .ok (.invokevirtual 86, 3) := by decide +kernel
theorem d_BV_checkAccess_66 : decode b_BV_checkAccess 66 = .ok (.pop, 1) := by decide +kernel
theorem d_BV_checkAccess_67 : decode b_BV_checkAccess 67 = .ok (.aload_n 0, 1) := by decide +kernel
theorem d_BV_checkAccess_68 : decode b_BV_checkAccess 68 = .ok (.bipush 127, 2) := by decide +kernel
theorem d_BV_checkAccess_70 : decode b_BV_checkAccess 70 = .ok (.invokevirtual 86, 3) := by decide +kernel
theorem d_BV_checkAccess_73 : decode b_BV_checkAccess 73 = .ok (.pop, 1) := by decide +kernel
theorem d_BV_checkAccess_74 : decode b_BV_checkAccess 74 = .ok (.return_, 1) := by decide +kernel
theorem d_BV_checkMemory_0 : decode b_BV_checkMemory 0 = .ok (.aload_n 0, 1) := by decide +kernel
theorem d_BV_checkMemory_1 : decode b_BV_checkMemory 1 = .ok (.getfield 33, 3) := by decide +kernel
theorem d_BV_checkMemory_4 : decode b_BV_checkMemory 4 = .ok (.getfield 174, 3) := by decide +kernel
theorem d_BV_checkMemory_7 : decode b_BV_checkMemory 7 = .ok (.ifCond .ne 8, 3) := by decide +kernel
theorem d_BV_checkMemory_10 : decode b_BV_checkMemory 10 = .ok (.aload_n 0, 1) := by decide +kernel
theorem d_BV_checkMemory_11 : decode b_BV_checkMemory 11 = .ok (.iconst 1, 1) := by decide +kernel
theorem d_BV_checkMemory_12 : decode b_BV_checkMemory 12 = .ok (.putfield 54, 3) := by decide +kernel
theorem d_BV_checkMemory_15 : decode b_BV_checkMemory 15 = .ok (.iload_n 1, 1) := by decide +kernel
theorem d_BV_checkMemory_16 : decode b_BV_checkMemory 16 = .ok (.bipush 63, 2) := by decide +kernel
theorem d_BV_checkMemory_18 : decode b_BV_checkMemory 18 = .ok (.if_icmp .ne 12, 3) := by decide +kernel
theorem d_BV_checkMemory_21 : decode b_BV_checkMemory 21 = .ok (.aload_n 0, 1) := by decide +kernel
theorem d_BV_checkMemory_22 : decode b_BV_checkMemory 22 = .ok (.bipush 127, 2) := by decide +kernel
theorem d_BV_checkMemory_24 : decode b_BV_checkMemory 24 = .ok (.invokevirtual 89, 3) := by decide +kernel
theorem d_BV_checkMemory_27 : decode b_BV_checkMemory 27 = .ok (.goto 39, 3) := by decide +kernel
theorem d_BV_checkMemory_30 : decode b_BV_checkMemory 30 = .ok (.iload_n 1, 1) := by decide +kernel
theorem d_BV_checkMemory_31 : decode b_BV_checkMemory 31 = .ok (.bipush 64, 2) := by decide +kernel
theorem d_BV_checkMemory_33 : decode b_BV_checkMemory 33 = .ok (.if_icmp .ne 19, 3) := by decide +kernel
theorem d_BV_checkMemory_36 : decode b_BV_checkMemory 36 = .ok (.aload_n 0, 1) := by decide +kernel
theorem d_BV_checkMemory_37 : decode b_BV_checkMemory 37 = .ok (.bipush 127, 2) := by decide +kernel
theorem d_BV_checkMemory_39 : decode b_BV_checkMemory 39 = .ok (.invokevirtual 86, 3) := by decide +kernel
theorem d_BV_checkMemory_42 : decode b_BV_checkMemory 42 = .ok (.pop, 1) := by decide +kernel
theorem d_BV_checkMemory_43 : decode b_BV_checkMemory 43 = .ok (.aload_n 0, 1) := by decide +kernel
theorem d_BV_checkMemory_44 : decode b_BV_checkMemory 44 = .ok (.bipush 127, 2) := by decide +kernel
theorem d_BV_checkMemory_46 : decode b_BV_checkMemory 46 = .ok (.invokevirtual 89, 3) := by decide +kernel
theorem d_BV_checkMemory_49 : decode b_BV_checkMemory 49 = .ok (.goto 17, 3) := by decide +kernel
theorem d_BV_checkMemory_52 : decode b_BV_checkMemory 52 = .ok (.aload_n 0, 1) := by decide +kernel
theorem d_BV_checkMemory_53 : decode b_BV_checkMemory 53 = .ok (.iload_n 1, 1) := by decide +kernel
theorem d_BV_checkMemory_54 : decode b_BV_checkMemory 54 = .ok (.aload_n 0, 1) := by decide +kernel
theorem d_BV_checkMemory_55 : decode b_BV_checkMemory 55 = .ok (.getfield 43, 3) := by decide +kernel
theorem d_BV_checkMemory_58 : decode b_BV_checkMemory 58 = .ok (.getfield 117, 3) := by decide +kernel
theorem d_BV_checkMemory_61 : decode b_BV_checkMemory 61 = .ok (.iload_n 2, 1) := by decide +kernel
theorem d_BV_checkMemory_62 : decode b_BV_checkMemory 62 = .ok (.iaload, 1) := by decide +kernel
theorem d_BV_checkMemory_63 : decode b_BV_checkMemory 63 = .ok (.invokevirtual 177, 3) := by decide +kernel
theorem d_BV_checkMemory_66 : decode b_BV_checkMemory 66 = .ok (.return_, 1) := by decide +kernel
theorem d_BV_checkOperands_0 : decode b_BV_checkOperands 0 = .ok (.aload_n 0, 1) := by decide +kernel
theorem d_BV_checkOperands_1 : decode b_BV_checkOperands 1 = .ok (.iload_n 2, 1) := by decide +kernel
theorem d_BV_checkOperands_2 : decode b_BV_checkOperands 2 = .ok (.invokevirtual 86, 3) := by decide +kernel
theorem d_BV_checkOperands_5 : decode b_BV_checkOperands 5 = .ok (.pop, 1) := by decide +kernel
theorem d_BV_checkOperands_6 : decode b_BV_checkOperands 6 = .ok (.iload_n 1, 1) := by decide +kernel
theorem d_BV_checkOperands_7 : decode b_BV_checkOperands 7 = .ok (.ifCond .ne 9, 3) := by decide +kernel
theorem d_BV_checkOperands_10 : decode b_BV_checkOperands 10 = .ok (.aload_n 0, 1) := by decide +kernel
theorem d_BV_checkOperands_11 : decode b_BV_checkOperands 11 = .ok (.iload_n 2, 1) := by decide +kernel
theorem d_BV_checkOperands_12 : decode b_BV_checkOperands 12 = .ok (.invokevirtual 86, 3) := by decide +kernel
theorem d_BV_checkOperands_15 : decode b_BV_checkOperands 15 = .ok (.pop, 1) := by decide +kernel
theorem d_BV_checkOperands_16 : decode b_BV_checkOperands 16 = .ok (.aload_n 0, 1) := by decide +kernel
theorem d_BV_checkOperands_17 : decode b_BV_checkOperands 17 = .ok (.iload_n 3, 1) := by decide +kernel
theorem d_BV_checkOperands_18 : decode b_BV_checkOperands 18 = .ok (.invokevirtual 89, 3) := by decide +kernel
theorem d_BV_checkOperands_21 : decode b_BV_checkOperands 21 = .ok (.return_, 1) := by decide +kernel
theorem d_BV_checkNumeric_0 : decode b_BV_checkNumeric 0 = .ok (.iload_n 1, 1) := by decide +kernel
theorem d_BV_checkNumeric_1 : decode b_BV_checkNumeric 1 = .ok (.bipush 79, 2) := by decide +kernel
theorem d_BV_checkNumeric_3 : decode b_BV_checkNumeric 3 = .ok (.if_icmp .gt 25, 3) := by decide +kernel
theorem d_BV_checkNumeric_6 : decode b_BV_checkNumeric 6 = .ok (.aload_n 0, 1) := by decide +kernel
theorem d_BV_checkNumeric_7 : decode b_BV_checkNumeric 7 = .ok (.iload_n 1, 1) := by decide +kernel
theorem d_BV_checkNumeric_8 : decode b_BV_checkNumeric 8 = .ok (.bipush 69, 2) := by decide +kernel
theorem d_BV_checkNumeric_10 : decode b_BV_checkNumeric 10 = .ok (.if_icmp .ne 7, 3) := by decide +kernel
theorem d_BV_checkNumeric_13 : decode b_BV_checkNumeric 13 = .ok (.iconst 1, 1) := by decide +kernel
theorem d_BV_checkNumeric_14 : decode b_BV_checkNumeric 14 = .ok (.goto 4, 3) := by decide +kernel
theorem d_BV_checkNumeric_17 : decode b_BV_checkNumeric 17 = .ok (.iconst 0, 1) := by decide +kernel
theorem d_BV_checkNumeric_18 : decode b_BV_checkNumeric 18 = .ok (.bipush 127, 2) := by decide +kernel
theorem d_BV_checkNumeric_20 : decode b_BV_checkNumeric 20 = .ok (.bipush 127, 2) := by decide +kernel
theorem d_BV_checkNumeric_22 : decode b_BV_checkNumeric 22 = .ok (.invokevirtual 187, 3) := by decide +kernel
theorem d_BV_checkNumeric_25 : decode b_BV_checkNumeric 25 = .ok (.goto 116, 3) := by decide +kernel
theorem d_BV_checkNumeric_28 : decode b_BV_checkNumeric 28 = .ok (.iload_n 1, 1) := by decide +kernel
theorem d_BV_checkNumeric_29 : decode b_BV_checkNumeric 29 = .ok (.bipush 90, 2) := by decide +kernel
theorem d_BV_checkNumeric_31 : decode b_BV_checkNumeric 31 = .ok (.if_icmp .gt 25, 3) := by decide +kernel
theorem d_BV_checkNumeric_34 : decode b_BV_checkNumeric 34 = .ok (.aload_n 0, 1) := by decide +kernel
theorem d_BV_checkNumeric_35 : decode b_BV_checkNumeric 35 = .ok (.iload_n 1, 1) := by decide +kernel
theorem d_BV_checkNumeric_36 : decode b_BV_checkNumeric 36 = .ok (.bipush 80, 2) := by decide +kernel
theorem d_BV_checkNumeric_38 : decode b_BV_checkNumeric 38 = .ok (.if_icmp .ne 7, 3) := by decide +kernel
theorem d_BV_checkNumeric_41 : decode b_BV_checkNumeric 41 = .ok (.iconst 1, 1) := by decide +kernel
theorem d_BV_checkNumeric_42 : decode b_BV_checkNumeric 42 = .ok (.goto 4, 3) := by decide +kernel
theorem d_BV_checkNumeric_45 : decode b_BV_checkNumeric 45 = .ok (.iconst 0, 1) := by decide +kernel
theorem d_BV_checkNumeric_46 : decode b_BV_checkNumeric 46 = .ok (.bipush 126, 2) := by decide +kernel
theorem d_BV_checkNumeric_48 : decode b_BV_checkNumeric 48 = .ok (.bipush 127, 2) := by decide +kernel
theorem d_BV_checkNumeric_50 : decode b_BV_checkNumeric 50 = .ok (.invokevirtual 187, 3) := by decide +kernel
theorem d_BV_checkNumeric_53 : decode b_BV_checkNumeric 53 = .ok (.goto 88, 3) := by decide +kernel
theorem d_BV_checkNumeric_56 : decode b_BV_checkNumeric 56 = .ok (.iload_n 1, 1) := by decide +kernel
theorem d_BV_checkNumeric_57 : decode b_BV_checkNumeric 57 = .ok (.bipush 120, 2) := by decide +kernel
theorem d_BV_checkNumeric_59 : decode b_BV_checkNumeric 59 = .ok (.if_icmp .gt 25, 3) := by decide +kernel
theorem d_BV_checkNumeric_62 : decode b_BV_checkNumeric 62 = .ok (.aload_n 0, 1) := by decide +kernel
theorem d_BV_checkNumeric_63 : decode b_BV_checkNumeric 63 = .ok (.iload_n 1, 1) := by decide +kernel
theorem d_BV_checkNumeric_64 : decode b_BV_checkNumeric 64 = .ok (.bipush 105, 2) := by decide +kernel
theorem d_BV_checkNumeric_66 : decode b_BV_checkNumeric 66 = .ok (.if_icmp .gt 7, 3) := by decide +kernel
theorem d_BV_checkNumeric_69 : decode b_BV_checkNumeric 69 = .ok (.iconst 1, 1) := by decide +kernel
theorem d_BV_checkNumeric_70 : decode b_BV_checkNumeric 70 = .ok (.goto 4, 3) := by decide +kernel
theorem d_BV_checkNumeric_73 : decode b_BV_checkNumeric 73 = .ok (.iconst 0, 1) := by decide +kernel
theorem d_BV_checkNumeric_74 : decode b_BV_checkNumeric 74 = .ok (.bipush 127, 2) := by decide +kernel
theorem d_BV_checkNumeric_76 : decode b_BV_checkNumeric 76 = .ok (.bipush 127, 2) := by decide +kernel
theorem d_BV_checkNumeric_78 : decode b_BV_checkNumeric 78 = .ok (.invokevirtual 187, 3) := by decide +kernel
theorem d_BV_checkNumeric_81 : decode b_BV_checkNumeric 81 = .ok (.goto 60, 3) := by decide +kernel
theorem d_BV_checkNumeric_84 : decode b_BV_checkNumeric 84 = .ok (.iload_n 1, 1) := by decide +kernel
theorem d_BV_checkNumeric_85 : decode b_BV_checkNumeric 85 = .ok (.sipush 138, 3) := by decide +kernel
theorem d_BV_checkNumeric_88 : decode b_BV_checkNumeric 88 = .ok (.if_icmp .gt 25, 3) := by decide +kernel
theorem d_BV_checkNumeric_91 : decode b_BV_checkNumeric 91 = .ok (.aload_n 0, 1) := by decide +kernel
theorem d_BV_checkNumeric_92 : decode b_BV_checkNumeric 92 = .ok (.iload_n 1, 1) := by decide +kernel
theorem d_BV_checkNumeric_93 : decode b_BV_checkNumeric 93 = .ok (.bipush 123, 2) := by decide +kernel
theorem d_BV_checkNumeric_95 : decode b_BV_checkNumeric 95 = .ok (.if_icmp .gt 7, 3) := by decide +kernel
theorem d_BV_checkNumeric_98 : decode b_BV_checkNumeric 98 = .ok (.iconst 1, 1) := by decide +kernel
theorem d_BV_checkNumeric_99 : decode b_BV_checkNumeric 99 = .ok (.goto 4, 3) := by decide +kernel
theorem d_BV_checkNumeric_102 : decode b_BV_checkNumeric 102 = .ok (.iconst 0, 1) := by decide +kernel
theorem d_BV_checkNumeric_103 : decode b_BV_checkNumeric 103 = .ok (.bipush 126, 2) := by decide +kernel
theorem d_BV_checkNumeric_105 : decode b_BV_checkNumeric 105 = .ok (.bipush 126, 2) := by decide +kernel
theorem d_BV_checkNumeric_107 : decode b_BV_checkNumeric 107 = .ok (.invokevirtual 187, 3) := by decide +kernel
theorem d_BV_checkNumeric_110 : decode b_BV_checkNumeric 110 = .ok (.goto 31, 3) := by decide +kernel
theorem d_BV_checkNumeric_113 : decode b_BV_checkNumeric 113 = .ok (.iload_n 1, 1) := by decide +kernel
theorem d_BV_checkNumeric_114 : decode b_BV_checkNumeric 114 = .ok (.sipush 167, 3) := by decide +kernel
theorem d_BV_checkNumeric_117 : decode b_BV_checkNumeric 117 = .ok (.if_icmp .ne 15, 3) := by decide +kernel
theorem d_BV_checkNumeric_120 : decode b_BV_checkNumeric 120 = .ok (.aload_n 0, 1) := by decide +kernel
theorem d_BV_checkNumeric_121 : decode b_BV_checkNumeric 121 = .ok (.iconst 1, 1) := by decide +kernel
theorem d_BV_checkNumeric_122 : decode b_BV_checkNumeric 122 = .ok (.bipush 126, 2) := by decide +kernel
theorem d_BV_checkNumeric_124 : decode b_BV_checkNumeric 124 = .ok (.bipush 127, 2) := by decide +kernel
theorem d_BV_checkNumeric_126 : decode b_BV_checkNumeric 126 = .ok (.invokevirtual 187, 3) := by decide +kernel
theorem d_BV_checkNumeric_129 : decode b_BV_checkNumeric 129 = .ok (.goto 12, 3) := by decide +kernel
theorem d_BV_checkNumeric_132 : decode b_BV_checkNumeric 132 = .ok (.aload_n 0, 1) := by decide +kernel
theorem d_BV_checkNumeric_133 : decode b_BV_checkNumeric 133 = .ok (.iconst 1, 1) := by decide +kernel
theorem d_BV_checkNumeric_134 : decode b_BV_checkNumeric 134 = .ok (.bipush 127, 2) := by decide +kernel
theorem d_BV_checkNumeric_136 : decode b_BV_checkNumeric 136 = .ok (.bipush 126, 2) := by decide +kernel
theorem d_BV_checkNumeric_138 : decode b_BV_checkNumeric 138 = .ok (.invokevirtual 187, 3) := by decide +kernel
theorem d_BV_checkNumeric_141 : decode b_BV_checkNumeric 141 = .ok (.return_, 1) := by decide +kernel
theorem m_118 : Cond.fieldLink R_BV 51 "WaferRunner$BodyValidator" "openCount" "I" ∈ lw_good := lw_in (List.mem_append_right _ (List.mem_of_getElem? (i := 118) (by decide +kernel))) (by decide +kernel)
theorem m_112 : Cond.fieldLink R_BV 48 "WaferRunner$BodyValidator" "height" "I" ∈ lw_good := lw_in (List.mem_append_right _ (List.mem_of_getElem? (i := 112) (by decide +kernel))) (by decide +kernel)
theorem m_109 : Cond.fieldLink R_BV 43 "WaferRunner$BodyValidator" "code" "LWaferRunner$Code;" ∈ lw_good := lw_in (List.mem_append_right _ (List.mem_of_getElem? (i := 109) (by decide +kernel))) (by decide +kernel)
theorem m_279 : Cond.fieldLink R_BV 136 "WaferRunner$Code" "heights" "[I" ∈ lw_good := lw_in (List.mem_append_right _ (List.mem_of_getElem? (i := 279) (by decide +kernel))) (by decide +kernel)
theorem m_119 : Cond.fieldLink R_BV 54 "WaferRunner$BodyValidator" "failed" "Z" ∈ lw_good := lw_in (List.mem_append_right _ (List.mem_of_getElem? (i := 119) (by decide +kernel))) (by decide +kernel)
theorem m_804 : Cond.methodLink R_BV 86 y_BV_pop ∈ lw_good := lw_in (List.mem_append_right _ (List.mem_of_getElem? (i := 804) (by decide +kernel))) (by decide +kernel)
theorem m_806 : Cond.instanceMethod y_BV_pop ∈ lw_good := lw_in (List.mem_append_right _ (List.mem_of_getElem? (i := 806) (by decide +kernel))) (by decide +kernel)
theorem ms_BV_pop : Cond.selects R_BV y_BV_pop y_BV_pop ∈ lw_good := lw_in (by decide +kernel) (by decide +kernel)
theorem m_807 : Cond.code y_BV_pop b_BV_pop 3 (some .int) ∈ lw_good := lw_in (List.mem_append_right _ (List.mem_of_getElem? (i := 807) (by decide +kernel))) (by decide +kernel)
theorem m_260 : Cond.fieldLink R_BV 74 "WaferRunner$Code" "ops" "[I" ∈ lw_good := lw_in (List.mem_append_right _ (List.mem_of_getElem? (i := 260) (by decide +kernel))) (by decide +kernel)
theorem m_277 : Cond.fieldLink R_BV 139 "WaferRunner$Code" "elses" "[I" ∈ lw_good := lw_in (List.mem_append_right _ (List.mem_of_getElem? (i := 277) (by decide +kernel))) (by decide +kernel)
theorem m_820 : Cond.methodLink R_BV 89 y_BV_push ∈ lw_good := lw_in (List.mem_append_right _ (List.mem_of_getElem? (i := 820) (by decide +kernel))) (by decide +kernel)
theorem m_822 : Cond.instanceMethod y_BV_push ∈ lw_good := lw_in (List.mem_append_right _ (List.mem_of_getElem? (i := 822) (by decide +kernel))) (by decide +kernel)
theorem ms_BV_push : Cond.selects R_BV y_BV_push y_BV_push ∈ lw_good := lw_in (by decide +kernel) (by decide +kernel)
theorem m_823 : Cond.code y_BV_push b_BV_push 2 none ∈ lw_good := lw_in (List.mem_append_right _ (List.mem_of_getElem? (i := 823) (by decide +kernel))) (by decide +kernel)
theorem m_264 : Cond.fieldLink R_BV 93 "WaferRunner$Code" "values" "[J" ∈ lw_good := lw_in (List.mem_append_right _ (List.mem_of_getElem? (i := 264) (by decide +kernel))) (by decide +kernel)
theorem m_816 : Cond.methodLink R_BV 142 y_BV_levelOf ∈ lw_good := lw_in (List.mem_append_right _ (List.mem_of_getElem? (i := 816) (by decide +kernel))) (by decide +kernel)
theorem m_818 : Cond.instanceMethod y_BV_levelOf ∈ lw_good := lw_in (List.mem_append_right _ (List.mem_of_getElem? (i := 818) (by decide +kernel))) (by decide +kernel)
theorem ms_BV_levelOf : Cond.selects R_BV y_BV_levelOf y_BV_levelOf ∈ lw_good := lw_in (by decide +kernel) (by decide +kernel)
theorem m_819 : Cond.code y_BV_levelOf b_BV_levelOf 3 (some .int) ∈ lw_good := lw_in (List.mem_append_right _ (List.mem_of_getElem? (i := 819) (by decide +kernel))) (by decide +kernel)
theorem m_283 : Cond.fieldLink R_BV 146 "WaferRunner$Code" "targets" "[I" ∈ lw_good := lw_in (List.mem_append_right _ (List.mem_of_getElem? (i := 283) (by decide +kernel))) (by decide +kernel)
theorem m_800 : Cond.methodLink R_BV 114 y_BV_becomeUnreachable ∈ lw_good := lw_in (List.mem_append_right _ (List.mem_of_getElem? (i := 800) (by decide +kernel))) (by decide +kernel)
theorem m_802 : Cond.instanceMethod y_BV_becomeUnreachable ∈ lw_good := lw_in (List.mem_append_right _ (List.mem_of_getElem? (i := 802) (by decide +kernel))) (by decide +kernel)
theorem ms_BV_becomeUnreachable : Cond.selects R_BV y_BV_becomeUnreachable y_BV_becomeUnreachable ∈ lw_good := lw_in (by decide +kernel) (by decide +kernel)
theorem m_803 : Cond.code y_BV_becomeUnreachable b_BV_becomeUnreachable 1 none ∈ lw_good := lw_in (List.mem_append_right _ (List.mem_of_getElem? (i := 803) (by decide +kernel))) (by decide +kernel)
theorem m_268 : Cond.fieldLink R_BV 117 "WaferRunner$Code" "extras" "[I" ∈ lw_good := lw_in (List.mem_append_right _ (List.mem_of_getElem? (i := 268) (by decide +kernel))) (by decide +kernel)
theorem m_287 : Cond.fieldLink R_BV 149 "WaferRunner$Code" "labels" "[I" ∈ lw_good := lw_in (List.mem_append_right _ (List.mem_of_getElem? (i := 287) (by decide +kernel))) (by decide +kernel)
theorem m_290 : Cond.fieldLink R_BV 152 "WaferRunner$Code" "labelTargets" "[I" ∈ lw_good := lw_in (List.mem_append_right _ (List.mem_of_getElem? (i := 290) (by decide +kernel))) (by decide +kernel)
theorem m_108 : Cond.fieldLink R_BV 33 "WaferRunner$BodyValidator" "wafer" "LWaferRunner$Wafer;" ∈ lw_good := lw_in (List.mem_append_right _ (List.mem_of_getElem? (i := 108) (by decide +kernel))) (by decide +kernel)
theorem m_327 : Cond.fieldLink R_BV 155 "WaferRunner$Wafer" "functionCount" "I" ∈ lw_good := lw_in (List.mem_append_right _ (List.mem_of_getElem? (i := 327) (by decide +kernel))) (by decide +kernel)
theorem m_832 : Cond.methodLink R_BV 158 y_Wa_parameterCountOf ∈ lw_good := lw_in (List.mem_append_right _ (List.mem_of_getElem? (i := 832) (by decide +kernel))) (by decide +kernel)
theorem m_836 : Cond.methodLink R_BV 161 y_Wa_parameterTypeOf ∈ lw_good := lw_in (List.mem_append_right _ (List.mem_of_getElem? (i := 836) (by decide +kernel))) (by decide +kernel)
theorem m_784 : Cond.methodLink R_BV 58 y_Wa_resultOf ∈ lw_good := lw_in (List.mem_append_right _ (List.mem_of_getElem? (i := 784) (by decide +kernel))) (by decide +kernel)
theorem m_785 : Cond.instanceMethod y_Wa_resultOf ∈ lw_good := lw_in (List.mem_append_right _ (List.mem_of_getElem? (i := 785) (by decide +kernel))) (by decide +kernel)
theorem m_786 : Cond.selects R_Wa y_Wa_resultOf y_Wa_resultOf ∈ lw_good := lw_in (List.mem_append_right _ (List.mem_of_getElem? (i := 786) (by decide +kernel))) (by decide +kernel)
theorem m_787 : Cond.code y_Wa_resultOf b_Wa_resultOf 2 (some .int) ∈ lw_good := lw_in (List.mem_append_right _ (List.mem_of_getElem? (i := 787) (by decide +kernel))) (by decide +kernel)
theorem m_357 : Cond.fieldLink R_BV 165 "WaferRunner$Wafer" "globalCount" "I" ∈ lw_good := lw_in (List.mem_append_right _ (List.mem_of_getElem? (i := 357) (by decide +kernel))) (by decide +kernel)
theorem m_364 : Cond.fieldLink R_BV 171 "WaferRunner$Wafer" "globalsChange" "[Z" ∈ lw_good := lw_in (List.mem_append_right _ (List.mem_of_getElem? (i := 364) (by decide +kernel))) (by decide +kernel)
theorem m_361 : Cond.fieldLink R_BV 168 "WaferRunner$Wafer" "globalTypes" "[I" ∈ lw_good := lw_in (List.mem_append_right _ (List.mem_of_getElem? (i := 361) (by decide +kernel))) (by decide +kernel)
theorem m_866 : Cond.methodLink R_BV 180 y_Op_width ∈ lw_good := lw_in (List.mem_append_right _ (List.mem_of_getElem? (i := 866) (by decide +kernel))) (by decide +kernel)
theorem m_867 : Cond.static y_Op_width ∈ lw_good := lw_in (List.mem_append_right _ (List.mem_of_getElem? (i := 867) (by decide +kernel))) (by decide +kernel)
theorem m_868 : Cond.code y_Op_width b_Op_width 1 (some .int) ∈ lw_good := lw_in (List.mem_append_right _ (List.mem_of_getElem? (i := 868) (by decide +kernel))) (by decide +kernel)
theorem m_869 : Cond.methodLink R_BV 183 y_Op_isLoad ∈ lw_good := lw_in (List.mem_append_right _ (List.mem_of_getElem? (i := 869) (by decide +kernel))) (by decide +kernel)
theorem m_870 : Cond.static y_Op_isLoad ∈ lw_good := lw_in (List.mem_append_right _ (List.mem_of_getElem? (i := 870) (by decide +kernel))) (by decide +kernel)
theorem m_871 : Cond.code y_Op_isLoad b_Op_isLoad 1 (some .boolean) ∈ lw_good := lw_in (List.mem_append_right _ (List.mem_of_getElem? (i := 871) (by decide +kernel))) (by decide +kernel)
theorem m_343 : Cond.fieldLink R_BV 174 "WaferRunner$Wafer" "hasMemory" "Z" ∈ lw_good := lw_in (List.mem_append_right _ (List.mem_of_getElem? (i := 343) (by decide +kernel))) (by decide +kernel)
theorem m_862 : Cond.methodLink R_BV 177 y_BV_checkAccess ∈ lw_good := lw_in (List.mem_append_right _ (List.mem_of_getElem? (i := 862) (by decide +kernel))) (by decide +kernel)
theorem m_864 : Cond.instanceMethod y_BV_checkAccess ∈ lw_good := lw_in (List.mem_append_right _ (List.mem_of_getElem? (i := 864) (by decide +kernel))) (by decide +kernel)
theorem ms_BV_checkAccess : Cond.selects R_BV y_BV_checkAccess y_BV_checkAccess ∈ lw_good := lw_in (by decide +kernel) (by decide +kernel)
theorem m_865 : Cond.code y_BV_checkAccess b_BV_checkAccess 5 none ∈ lw_good := lw_in (List.mem_append_right _ (List.mem_of_getElem? (i := 865) (by decide +kernel))) (by decide +kernel)
theorem m_876 : Cond.methodLink R_BV 187 y_BV_checkOperands ∈ lw_good := lw_in (List.mem_append_right _ (List.mem_of_getElem? (i := 876) (by decide +kernel))) (by decide +kernel)
theorem m_878 : Cond.instanceMethod y_BV_checkOperands ∈ lw_good := lw_in (List.mem_append_right _ (List.mem_of_getElem? (i := 878) (by decide +kernel))) (by decide +kernel)
theorem ms_BV_checkOperands : Cond.selects R_BV y_BV_checkOperands y_BV_checkOperands ∈ lw_good := lw_in (by decide +kernel) (by decide +kernel)
theorem m_879 : Cond.code y_BV_checkOperands b_BV_checkOperands 4 none ∈ lw_good := lw_in (List.mem_append_right _ (List.mem_of_getElem? (i := 879) (by decide +kernel))) (by decide +kernel)
set_option maxHeartbeats 8000000 in
set_option maxRecDepth 100000 in
theorem k_BV_openBlock (l : Launch) (htr : l.stackTraces = false) (G : va_G) (cB cI cJ cZ cG : ClassId) (aCo : Nat) (aCo_ops : Nat) (aCo_values : Nat) (aCo_extras : Nat) (aCo_ends : Nat) (aCo_elses : Nat) (aCo_heights : Nat) (aCo_targets : Nat) (aCo_labels : Nat) (aCo_labelTargets : Nat) (aBV : Nat) (aWa : Nat) (aBV_types : Nat) (aBV_openers : Nat) (aBV_bases : Nat) (aBV_blockTypes : Nat) (aBV_labelTypes : Nat) (aBV_unreachable : Nat) (zCo : KCo) (zCt : KCt) (zBV : KBV) (zBt : KBt) (zBo : KBo) (hzCo : KCo.Ok zCo) (hzCt : KCt.Ok zCt) (hzBV : KBV.Ok zBV) (hzBt : KBt.Ok zBt) (hzBo : KBo.Ok zBo) (v_opener : Int) (v_blockType : Int) (v_labelType : Int) (hv_opener : R32 v_opener) (hv_blockType : R32 v_blockType) (hv_labelType : R32 v_labelType) (R9 : Out Empty (KCt × KBV × KBo)) (hf : f_BV_openBlock zCt zBV zBt zBo v_opener v_blockType v_labelType = R9) (hnb : R9 ≠ .bad) (sz : Nat) : MetX l y_BV_openBlock (wx y_BV_openBlock b_BV_openBlock 4 none) { frames := 0, cells := 0, slots := 0, locals := 0 } (XP G classes (xtys cB cI cJ cZ cG) xE [.ref aBV, .int (iI v_opener), .int (iI v_blockType), .int (iI v_labelType)] [(aCo, .inr (9, [.int (iI zCo.size), .ref aCo_ops, .ref aCo_values, .ref aCo_extras, .ref aCo_ends, .ref aCo_elses, .ref aCo_heights, .ref aCo_targets, .int (iI zCo.labelCount), .ref aCo_labels, .ref aCo_labelTargets])), (aCo_heights, .inl (cI, 2000, .inl (fun k9 => iI (zCt.heights k9)))), (aCo_targets, .inl (cI, 2000, .inl (fun k9 => iI (zCt.targets k9)))), (aCo_labelTargets, .inl (cI, 2000, .inl (fun k9 => iI (zCt.labelTargets k9)))), (aBV, .inr (5, [.ref aWa, .ref aCo, .int (iI zBV.function), .ref aBV_types, .int (iI zBt.height), .ref aBV_openers, .ref aBV_bases, .ref aBV_blockTypes, .ref aBV_labelTypes, .ref aBV_unreachable, .int (iI zBo.openCount), .int (bI zBV.failed)])), (aBV_openers, .inl (cI, 101, .inl (fun k9 => iI (zBo.openers k9)))), (aBV_bases, .inl (cI, 101, .inl (fun k9 => iI (zBo.bases k9)))), (aBV_blockTypes, .inl (cI, 101, .inl (fun k9 => iI (zBo.blockTypes k9)))), (aBV_labelTypes, .inl (cI, 101, .inl (fun k9 => iI (zBo.labelTypes k9)))), (aBV_unreachable, .inl (cZ, 101, .inl (fun k9 => bI (zBo.unreachable k9))))] sz) (XQ G classes (va_A [(aCo, .inr (9, [.int (iI zCo.size), .ref aCo_ops, .ref aCo_values, .ref aCo_extras, .ref aCo_ends, .ref aCo_elses, .ref aCo_heights, .ref aCo_targets, .int (iI zCo.labelCount), .ref aCo_labels, .ref aCo_labelTargets])), (aCo_heights, .inl (cI, 2000, .inl (fun k9 => iI (zCt.heights k9)))), (aCo_targets, .inl (cI, 2000, .inl (fun k9 => iI (zCt.targets k9)))), (aCo_labelTargets, .inl (cI, 2000, .inl (fun k9 => iI (zCt.labelTargets k9)))), (aBV, .inr (5, [.ref aWa, .ref aCo, .int (iI zBV.function), .ref aBV_types, .int (iI zBt.height), .ref aBV_openers, .ref aBV_bases, .ref aBV_blockTypes, .ref aBV_labelTypes, .ref aBV_unreachable, .int (iI zBo.openCount), .int (bI zBV.failed)])), (aBV_openers, .inl (cI, 101, .inl (fun k9 => iI (zBo.openers k9)))), (aBV_bases, .inl (cI, 101, .inl (fun k9 => iI (zBo.bases k9)))), (aBV_blockTypes, .inl (cI, 101, .inl (fun k9 => iI (zBo.blockTypes k9)))), (aBV_labelTypes, .inl (cI, 101, .inl (fun k9 => iI (zBo.labelTypes k9)))), (aBV_unreachable, .inl (cZ, 101, .inl (fun k9 => bI (zBo.unreachable k9))))] sz) (fun o w1 => ozp R9 (fun x9 => (KCt.Ok x9.1 ∧ KBV.Ok x9.2.1 ∧ KBo.Ok x9.2.2) ∧ o = .returned none ∧ w1 = [(aCo, .inr (9, [.int (iI zCo.size), .ref aCo_ops, .ref aCo_values, .ref aCo_extras, .ref aCo_ends, .ref aCo_elses, .ref aCo_heights, .ref aCo_targets, .int (iI zCo.labelCount), .ref aCo_labels, .ref aCo_labelTargets])), (aCo_heights, .inl (cI, 2000, .inl (fun k9 => iI (x9.1.heights k9)))), (aCo_targets, .inl (cI, 2000, .inl (fun k9 => iI (x9.1.targets k9)))), (aCo_labelTargets, .inl (cI, 2000, .inl (fun k9 => iI (x9.1.labelTargets k9)))), (aBV, .inr (5, [.ref aWa, .ref aCo, .int (iI x9.2.1.function), .ref aBV_types, .int (iI zBt.height), .ref aBV_openers, .ref aBV_bases, .ref aBV_blockTypes, .ref aBV_labelTypes, .ref aBV_unreachable, .int (iI x9.2.2.openCount), .int (bI x9.2.1.failed)])), (aBV_openers, .inl (cI, 101, .inl (fun k9 => iI (x9.2.2.openers k9)))), (aBV_bases, .inl (cI, 101, .inl (fun k9 => iI (x9.2.2.bases k9)))), (aBV_blockTypes, .inl (cI, 101, .inl (fun k9 => iI (x9.2.2.blockTypes k9)))), (aBV_labelTypes, .inl (cI, 101, .inl (fun k9 => iI (x9.2.2.labelTypes k9)))), (aBV_unreachable, .inl (cZ, 101, .inl (fun k9 => bI (x9.2.2.unreachable k9))))]) (fun _ => False))) 0 0 (va_A [(aCo, .inr (9, [.int (iI zCo.size), .ref aCo_ops, .ref aCo_values, .ref aCo_extras, .ref aCo_ends, .ref aCo_elses, .ref aCo_heights, .ref aCo_targets, .int (iI zCo.labelCount), .ref aCo_labels, .ref aCo_labelTargets])), (aCo_heights, .inl (cI, 2000, .inl (fun k9 => iI (zCt.heights k9)))), (aCo_targets, .inl (cI, 2000, .inl (fun k9 => iI (zCt.targets k9)))), (aCo_labelTargets, .inl (cI, 2000, .inl (fun k9 => iI (zCt.labelTargets k9)))), (aBV, .inr (5, [.ref aWa, .ref aCo, .int (iI zBV.function), .ref aBV_types, .int (iI zBt.height), .ref aBV_openers, .ref aBV_bases, .ref aBV_blockTypes, .ref aBV_labelTypes, .ref aBV_unreachable, .int (iI zBo.openCount), .int (bI zBV.failed)])), (aBV_openers, .inl (cI, 101, .inl (fun k9 => iI (zBo.openers k9)))), (aBV_bases, .inl (cI, 101, .inl (fun k9 => iI (zBo.bases k9)))), (aBV_blockTypes, .inl (cI, 101, .inl (fun k9 => iI (zBo.blockTypes k9)))), (aBV_labelTypes, .inl (cI, 101, .inl (fun k9 => iI (zBo.labelTypes k9)))), (aBV_unreachable, .inl (cZ, 101, .inl (fun k9 => bI (zBo.unreachable k9))))] sz) := by
  refine ex_ofW (cc := b_BV_openBlock) (maxL := 4) (ret := none) (by decide) rfl ?_
  intro p e s m args below meth c s₁ B hml hno hv
  obtain ⟨rfl, hsz, hP, hK, hD0, hE⟩ := hv
  have hx := B.exec
  have hb := B.bytes
  have hr := B.returns
  have hts : ∀ w ∈ lw_good, w.before _ s = true := fun w h => atoms_spec (ws := wx y_BV_openBlock b_BV_openBlock 4 none) B.pre w (List.mem_cons_of_mem _ h)
  have hown : s.vm.findClass R_BV = some m.cls := findClass_of_methodNamed B.named
  have hlocks := B.notSynchronized
  subst hsz
  have hNS := xx_nostat hP
  have hD := hD0.self (sz := s.heap.size)
  generalize hAe : va_A [(aCo, .inr (9, [.int (iI zCo.size), .ref aCo_ops, .ref aCo_values, .ref aCo_extras, .ref aCo_ends, .ref aCo_elses, .ref aCo_heights, .ref aCo_targets, .int (iI zCo.labelCount), .ref aCo_labels, .ref aCo_labelTargets])), (aCo_heights, .inl (cI, 2000, .inl (fun k9 => iI (zCt.heights k9)))), (aCo_targets, .inl (cI, 2000, .inl (fun k9 => iI (zCt.targets k9)))), (aCo_labelTargets, .inl (cI, 2000, .inl (fun k9 => iI (zCt.labelTargets k9)))), (aBV, .inr (5, [.ref aWa, .ref aCo, .int (iI zBV.function), .ref aBV_types, .int (iI zBt.height), .ref aBV_openers, .ref aBV_bases, .ref aBV_blockTypes, .ref aBV_labelTypes, .ref aBV_unreachable, .int (iI zBo.openCount), .int (bI zBV.failed)])), (aBV_openers, .inl (cI, 101, .inl (fun k9 => iI (zBo.openers k9)))), (aBV_bases, .inl (cI, 101, .inl (fun k9 => iI (zBo.bases k9)))), (aBV_blockTypes, .inl (cI, 101, .inl (fun k9 => iI (zBo.blockTypes k9)))), (aBV_labelTypes, .inl (cI, 101, .inl (fun k9 => iI (zBo.labelTypes k9)))), (aBV_unreachable, .inl (cZ, 101, .inl (fun k9 => bI (zBo.unreachable k9))))] s.heap.size = A at hD hE hNS ⊢
  have hA : ∀ q : Nat, s.heap.size ≤ q → A q := fun q h => by rw [← hAe]; exact Or.inr h
  have hS : va_S A s.heap s.heap [] := va_S.rf
  have hl := lv_entry ([.ref aBV, .int (iI v_opener), .int (iI v_blockType), .int (iI v_labelType)]) (n := 4) (Nat.le_of_ble_eq_true rfl)
  rw [lg_entry_eq]
  generalize (lg_sl ([.ref aBV, .int (iI v_opener), .int (iI v_blockType), .int (iI v_labelType)]) ++ List.replicate (4 - (lg_sl ([.ref aBV, .int (iI v_opener), .int (iI v_blockType), .int (iI v_labelType)])).length) Slot.unset).toArray = ls at hl ⊢
  have hl : lv_has ls 4 [(0, .ref aBV), (1, .int (iI v_opener)), (2, .int (iI v_blockType)), (3, .int (iI v_labelType))] := hl
  unfold f_BV_openBlock at hf
  refine lv_aload_n hx hb d_BV_openBlock_0 rfl (lv_at hl 0 rfl) ?_
  refine va_get (D := G) (ci := 5) (v := .int (iI zBo.openCount)) (C := R_BV) (T := F_BV) (N := 12) hx hb hts i_BV hown hK hP 4 rfl rfl 10 (by decide) (hts _ m_118) (fun _ h9 => h9) rfl d_BV_openBlock_1 ?_
  refine lv_bipush (v := iI 101) hx hb d_BV_openBlock_4 (by decide) ?_
  refine lv_icmp_lt (tgt := 15) hx hb d_BV_openBlock_6 (by decide) (fun c_1 => ?_) (fun c_1 => ?_)
  · have c_1 := ((zv_lt (iI_t hzBo.openCount) (iI_t (show R32 (101) by decide)))).mp c_1
    replace hf := ifp c_1 hf
    refine lv_aload_n hx hb d_BV_openBlock_15 rfl (lv_at hl 0 rfl) ?_
    refine va_get (D := G) (ci := 5) (v := .ref aBV_openers) (C := R_BV) (T := F_BV) (N := 12) hx hb hts i_BV hown hK hP 4 rfl rfl 5 (by decide) (hts _ m_113) (fun _ h9 => h9) rfl d_BV_openBlock_16 ?_
    refine lv_aload_n hx hb d_BV_openBlock_19 rfl (lv_at hl 0 rfl) ?_
    refine va_get (D := G) (ci := 5) (v := .int (iI zBo.openCount)) (C := R_BV) (T := F_BV) (N := 12) hx hb hts i_BV hown hK hP 4 rfl rfl 10 (by decide) (hts _ m_118) (fun _ h9 => h9) rfl d_BV_openBlock_20 ?_
    refine lv_iload_n hx hb d_BV_openBlock_23 rfl (lv_at hl 1 rfl) ?_
    replace hf := grd hnb hf
    obtain ⟨g_2, hf⟩ := hf
    refine va_iast hx hb hK hP hD hS 5 1 rfl rfl (vp_in_iI hzBo.openCount g_2) d_BV_openBlock_24 (fun H_1 locs_1 hP_1 hD_1 hS_1 => ?_)
    clear hS hD hP
    rw [iI_clamp hzBo.openCount, upd_iI] at hP_1 hD_1
    have hQ9 : (fun w9 => va_P G classes w9 H_1 ∧ va_D A w9) [(aCo, .inr (9, [.int (iI zCo.size), .ref aCo_ops, .ref aCo_values, .ref aCo_extras, .ref aCo_ends, .ref aCo_elses, .ref aCo_heights, .ref aCo_targets, .int (iI zCo.labelCount), .ref aCo_labels, .ref aCo_labelTargets])), (aCo_heights, .inl (cI, 2000, .inl (fun k9 => iI (zCt.heights k9)))), (aCo_targets, .inl (cI, 2000, .inl (fun k9 => iI (zCt.targets k9)))), (aCo_labelTargets, .inl (cI, 2000, .inl (fun k9 => iI (zCt.labelTargets k9)))), (aBV, .inr (5, [.ref aWa, .ref aCo, .int (iI zBV.function), .ref aBV_types, .int (iI zBt.height), .ref aBV_openers, .ref aBV_bases, .ref aBV_blockTypes, .ref aBV_labelTypes, .ref aBV_unreachable, .int (iI zBo.openCount), .int (bI zBV.failed)])), (aBV_openers, .inl (cI, 101, .inl (fun k9 => iI ((updZ zBo.openers zBo.openCount.toNat v_opener) k9)))), (aBV_bases, .inl (cI, 101, .inl (fun k9 => iI (zBo.bases k9)))), (aBV_blockTypes, .inl (cI, 101, .inl (fun k9 => iI (zBo.blockTypes k9)))), (aBV_labelTypes, .inl (cI, 101, .inl (fun k9 => iI (zBo.labelTypes k9)))), (aBV_unreachable, .inl (cZ, 101, .inl (fun k9 => bI (zBo.unreachable k9))))] := ⟨hP_1, hD_1⟩
    clear hP_1 hD_1
    obtain ⟨hP_1, hD_1⟩ := hQ9
    refine lv_aload_n hx hb d_BV_openBlock_25 rfl (lv_at hl 0 rfl) ?_
    refine va_get (D := G) (ci := 5) (v := .ref aBV_bases) (C := R_BV) (T := F_BV) (N := 12) hx hb hts i_BV hown hK hP_1 4 rfl rfl 6 (by decide) (hts _ m_114) (fun _ h9 => h9) rfl d_BV_openBlock_26 ?_
    refine lv_aload_n hx hb d_BV_openBlock_29 rfl (lv_at hl 0 rfl) ?_
    refine va_get (D := G) (ci := 5) (v := .int (iI zBo.openCount)) (C := R_BV) (T := F_BV) (N := 12) hx hb hts i_BV hown hK hP_1 4 rfl rfl 10 (by decide) (hts _ m_118) (fun _ h9 => h9) rfl d_BV_openBlock_30 ?_
    refine lv_aload_n hx hb d_BV_openBlock_33 rfl (lv_at hl 0 rfl) ?_
    refine va_get (D := G) (ci := 5) (v := .int (iI zBt.height)) (C := R_BV) (T := F_BV) (N := 12) hx hb hts i_BV hown hK hP_1 4 rfl rfl 4 (by decide) (hts _ m_112) (fun _ h9 => h9) rfl d_BV_openBlock_34 ?_
    replace hf := grd hnb hf
    obtain ⟨g_3, hf⟩ := hf
    refine va_iast hx hb hK hP_1 hD_1 hS_1 6 1 rfl rfl (vp_in_iI hzBo.openCount g_3) d_BV_openBlock_37 (fun H_2 locs_2 hP_2 hD_2 hS_2 => ?_)
    clear hS_1 hD_1 hP_1
    rw [iI_clamp hzBo.openCount, upd_iI] at hP_2 hD_2
    have hQ9 : (fun w9 => va_P G classes w9 H_2 ∧ va_D A w9) [(aCo, .inr (9, [.int (iI zCo.size), .ref aCo_ops, .ref aCo_values, .ref aCo_extras, .ref aCo_ends, .ref aCo_elses, .ref aCo_heights, .ref aCo_targets, .int (iI zCo.labelCount), .ref aCo_labels, .ref aCo_labelTargets])), (aCo_heights, .inl (cI, 2000, .inl (fun k9 => iI (zCt.heights k9)))), (aCo_targets, .inl (cI, 2000, .inl (fun k9 => iI (zCt.targets k9)))), (aCo_labelTargets, .inl (cI, 2000, .inl (fun k9 => iI (zCt.labelTargets k9)))), (aBV, .inr (5, [.ref aWa, .ref aCo, .int (iI zBV.function), .ref aBV_types, .int (iI zBt.height), .ref aBV_openers, .ref aBV_bases, .ref aBV_blockTypes, .ref aBV_labelTypes, .ref aBV_unreachable, .int (iI zBo.openCount), .int (bI zBV.failed)])), (aBV_openers, .inl (cI, 101, .inl (fun k9 => iI ((updZ zBo.openers zBo.openCount.toNat v_opener) k9)))), (aBV_bases, .inl (cI, 101, .inl (fun k9 => iI ((updZ zBo.bases zBo.openCount.toNat zBt.height) k9)))), (aBV_blockTypes, .inl (cI, 101, .inl (fun k9 => iI (zBo.blockTypes k9)))), (aBV_labelTypes, .inl (cI, 101, .inl (fun k9 => iI (zBo.labelTypes k9)))), (aBV_unreachable, .inl (cZ, 101, .inl (fun k9 => bI (zBo.unreachable k9))))] := ⟨hP_2, hD_2⟩
    clear hP_2 hD_2
    obtain ⟨hP_2, hD_2⟩ := hQ9
    refine lv_aload_n hx hb d_BV_openBlock_38 rfl (lv_at hl 0 rfl) ?_
    refine va_get (D := G) (ci := 5) (v := .ref aBV_blockTypes) (C := R_BV) (T := F_BV) (N := 12) hx hb hts i_BV hown hK hP_2 4 rfl rfl 7 (by decide) (hts _ m_115) (fun _ h9 => h9) rfl d_BV_openBlock_39 ?_
    refine lv_aload_n hx hb d_BV_openBlock_42 rfl (lv_at hl 0 rfl) ?_
    refine va_get (D := G) (ci := 5) (v := .int (iI zBo.openCount)) (C := R_BV) (T := F_BV) (N := 12) hx hb hts i_BV hown hK hP_2 4 rfl rfl 10 (by decide) (hts _ m_118) (fun _ h9 => h9) rfl d_BV_openBlock_43 ?_
    refine lv_iload_n hx hb d_BV_openBlock_46 rfl (lv_at hl 2 rfl) ?_
    replace hf := grd hnb hf
    obtain ⟨g_4, hf⟩ := hf
    refine va_iast hx hb hK hP_2 hD_2 hS_2 7 1 rfl rfl (vp_in_iI hzBo.openCount g_4) d_BV_openBlock_47 (fun H_3 locs_3 hP_3 hD_3 hS_3 => ?_)
    clear hS_2 hD_2 hP_2
    rw [iI_clamp hzBo.openCount, upd_iI] at hP_3 hD_3
    have hQ9 : (fun w9 => va_P G classes w9 H_3 ∧ va_D A w9) [(aCo, .inr (9, [.int (iI zCo.size), .ref aCo_ops, .ref aCo_values, .ref aCo_extras, .ref aCo_ends, .ref aCo_elses, .ref aCo_heights, .ref aCo_targets, .int (iI zCo.labelCount), .ref aCo_labels, .ref aCo_labelTargets])), (aCo_heights, .inl (cI, 2000, .inl (fun k9 => iI (zCt.heights k9)))), (aCo_targets, .inl (cI, 2000, .inl (fun k9 => iI (zCt.targets k9)))), (aCo_labelTargets, .inl (cI, 2000, .inl (fun k9 => iI (zCt.labelTargets k9)))), (aBV, .inr (5, [.ref aWa, .ref aCo, .int (iI zBV.function), .ref aBV_types, .int (iI zBt.height), .ref aBV_openers, .ref aBV_bases, .ref aBV_blockTypes, .ref aBV_labelTypes, .ref aBV_unreachable, .int (iI zBo.openCount), .int (bI zBV.failed)])), (aBV_openers, .inl (cI, 101, .inl (fun k9 => iI ((updZ zBo.openers zBo.openCount.toNat v_opener) k9)))), (aBV_bases, .inl (cI, 101, .inl (fun k9 => iI ((updZ zBo.bases zBo.openCount.toNat zBt.height) k9)))), (aBV_blockTypes, .inl (cI, 101, .inl (fun k9 => iI ((updZ zBo.blockTypes zBo.openCount.toNat v_blockType) k9)))), (aBV_labelTypes, .inl (cI, 101, .inl (fun k9 => iI (zBo.labelTypes k9)))), (aBV_unreachable, .inl (cZ, 101, .inl (fun k9 => bI (zBo.unreachable k9))))] := ⟨hP_3, hD_3⟩
    clear hP_3 hD_3
    obtain ⟨hP_3, hD_3⟩ := hQ9
    refine lv_aload_n hx hb d_BV_openBlock_48 rfl (lv_at hl 0 rfl) ?_
    refine va_get (D := G) (ci := 5) (v := .ref aBV_labelTypes) (C := R_BV) (T := F_BV) (N := 12) hx hb hts i_BV hown hK hP_3 4 rfl rfl 8 (by decide) (hts _ m_116) (fun _ h9 => h9) rfl d_BV_openBlock_49 ?_
    refine lv_aload_n hx hb d_BV_openBlock_52 rfl (lv_at hl 0 rfl) ?_
    refine va_get (D := G) (ci := 5) (v := .int (iI zBo.openCount)) (C := R_BV) (T := F_BV) (N := 12) hx hb hts i_BV hown hK hP_3 4 rfl rfl 10 (by decide) (hts _ m_118) (fun _ h9 => h9) rfl d_BV_openBlock_53 ?_
    refine lv_iload_n hx hb d_BV_openBlock_56 rfl (lv_at hl 3 rfl) ?_
    replace hf := grd hnb hf
    obtain ⟨g_5, hf⟩ := hf
    refine va_iast hx hb hK hP_3 hD_3 hS_3 8 1 rfl rfl (vp_in_iI hzBo.openCount g_5) d_BV_openBlock_57 (fun H_4 locs_4 hP_4 hD_4 hS_4 => ?_)
    clear hS_3 hD_3 hP_3
    rw [iI_clamp hzBo.openCount, upd_iI] at hP_4 hD_4
    have hQ9 : (fun w9 => va_P G classes w9 H_4 ∧ va_D A w9) [(aCo, .inr (9, [.int (iI zCo.size), .ref aCo_ops, .ref aCo_values, .ref aCo_extras, .ref aCo_ends, .ref aCo_elses, .ref aCo_heights, .ref aCo_targets, .int (iI zCo.labelCount), .ref aCo_labels, .ref aCo_labelTargets])), (aCo_heights, .inl (cI, 2000, .inl (fun k9 => iI (zCt.heights k9)))), (aCo_targets, .inl (cI, 2000, .inl (fun k9 => iI (zCt.targets k9)))), (aCo_labelTargets, .inl (cI, 2000, .inl (fun k9 => iI (zCt.labelTargets k9)))), (aBV, .inr (5, [.ref aWa, .ref aCo, .int (iI zBV.function), .ref aBV_types, .int (iI zBt.height), .ref aBV_openers, .ref aBV_bases, .ref aBV_blockTypes, .ref aBV_labelTypes, .ref aBV_unreachable, .int (iI zBo.openCount), .int (bI zBV.failed)])), (aBV_openers, .inl (cI, 101, .inl (fun k9 => iI ((updZ zBo.openers zBo.openCount.toNat v_opener) k9)))), (aBV_bases, .inl (cI, 101, .inl (fun k9 => iI ((updZ zBo.bases zBo.openCount.toNat zBt.height) k9)))), (aBV_blockTypes, .inl (cI, 101, .inl (fun k9 => iI ((updZ zBo.blockTypes zBo.openCount.toNat v_blockType) k9)))), (aBV_labelTypes, .inl (cI, 101, .inl (fun k9 => iI ((updZ zBo.labelTypes zBo.openCount.toNat v_labelType) k9)))), (aBV_unreachable, .inl (cZ, 101, .inl (fun k9 => bI (zBo.unreachable k9))))] := ⟨hP_4, hD_4⟩
    clear hP_4 hD_4
    obtain ⟨hP_4, hD_4⟩ := hQ9
    refine lv_aload_n hx hb d_BV_openBlock_58 rfl (lv_at hl 0 rfl) ?_
    refine va_get (D := G) (ci := 5) (v := .ref aBV_unreachable) (C := R_BV) (T := F_BV) (N := 12) hx hb hts i_BV hown hK hP_4 4 rfl rfl 9 (by decide) (hts _ m_117) (fun _ h9 => h9) rfl d_BV_openBlock_59 ?_
    refine lv_aload_n hx hb d_BV_openBlock_62 rfl (lv_at hl 0 rfl) ?_
    refine va_get (D := G) (ci := 5) (v := .int (iI zBo.openCount)) (C := R_BV) (T := F_BV) (N := 12) hx hb hts i_BV hown hK hP_4 4 rfl rfl 10 (by decide) (hts _ m_118) (fun _ h9 => h9) rfl d_BV_openBlock_63 ?_
    refine lv_iconst (v := iI 0) hx hb d_BV_openBlock_66 (by decide) ?_
    refine W.eq (g2 := F0 m 67 ls [.int (bI false), .int (iI zBo.openCount), .ref aBV_unreachable]) (by rfl) ?_
    replace hf := grd hnb hf
    obtain ⟨g_6, hf⟩ := hf
    refine va_zast hx hb hK hP_4 hD_4 hS_4 9 3 rfl rfl (vp_in_iI hzBo.openCount g_6) d_BV_openBlock_67 (fun H_5 locs_5 hP_5 hD_5 hS_5 => ?_)
    clear hS_4 hD_4 hP_4
    rw [iI_clamp hzBo.openCount, nar_bI, upd_bI] at hP_5 hD_5
    have hQ9 : (fun w9 => va_P G classes w9 H_5 ∧ va_D A w9) [(aCo, .inr (9, [.int (iI zCo.size), .ref aCo_ops, .ref aCo_values, .ref aCo_extras, .ref aCo_ends, .ref aCo_elses, .ref aCo_heights, .ref aCo_targets, .int (iI zCo.labelCount), .ref aCo_labels, .ref aCo_labelTargets])), (aCo_heights, .inl (cI, 2000, .inl (fun k9 => iI (zCt.heights k9)))), (aCo_targets, .inl (cI, 2000, .inl (fun k9 => iI (zCt.targets k9)))), (aCo_labelTargets, .inl (cI, 2000, .inl (fun k9 => iI (zCt.labelTargets k9)))), (aBV, .inr (5, [.ref aWa, .ref aCo, .int (iI zBV.function), .ref aBV_types, .int (iI zBt.height), .ref aBV_openers, .ref aBV_bases, .ref aBV_blockTypes, .ref aBV_labelTypes, .ref aBV_unreachable, .int (iI zBo.openCount), .int (bI zBV.failed)])), (aBV_openers, .inl (cI, 101, .inl (fun k9 => iI ((updZ zBo.openers zBo.openCount.toNat v_opener) k9)))), (aBV_bases, .inl (cI, 101, .inl (fun k9 => iI ((updZ zBo.bases zBo.openCount.toNat zBt.height) k9)))), (aBV_blockTypes, .inl (cI, 101, .inl (fun k9 => iI ((updZ zBo.blockTypes zBo.openCount.toNat v_blockType) k9)))), (aBV_labelTypes, .inl (cI, 101, .inl (fun k9 => iI ((updZ zBo.labelTypes zBo.openCount.toNat v_labelType) k9)))), (aBV_unreachable, .inl (cZ, 101, .inl (fun k9 => bI ((updB zBo.unreachable zBo.openCount.toNat false) k9))))] := ⟨hP_5, hD_5⟩
    clear hP_5 hD_5
    obtain ⟨hP_5, hD_5⟩ := hQ9
    refine lv_aload_n hx hb d_BV_openBlock_68 rfl (lv_at hl 0 rfl) ?_
    refine lv_dup hx hb d_BV_openBlock_69 rfl ?_
    refine va_get (D := G) (ci := 5) (v := .int (iI zBo.openCount)) (C := R_BV) (T := F_BV) (N := 12) hx hb hts i_BV hown hK hP_5 4 rfl rfl 10 (by decide) (hts _ m_118) (fun _ h9 => h9) rfl d_BV_openBlock_70 ?_
    refine lv_iconst (v := iI 1) hx hb d_BV_openBlock_73 (by decide) ?_
    refine lv_iadd hx hb d_BV_openBlock_74 ?_
    refine lv_topi (fun x9 e9 => ?_)
    obtain rfl : x9 = iI (zBo.openCount + 1) := e9.trans (iI_add _ _)
    replace hf := grd hnb hf
    obtain ⟨g_7, hf⟩ := hf
    refine va_put (D := G) (ci := 5) (v := .int (iI (zBo.openCount + 1))) (ty := .int) (C := R_BV) (T := F_BV) (N := 12) hx hb hts i_BV t_BV t_BV_ok n_BV hown hK hP_5 hD_5 hS_5 4 rfl rfl 10 (by decide) (hts _ m_118) (fun _ h9 => h9) rfl (by decide +kernel) rfl rfl (Nat.le_of_ble_eq_true rfl) d_BV_openBlock_75 (fun H_6 locs_6 hP_6 hD_6 hS_6 => ?_)
    clear hS_5 hD_5 hP_5
    have hQ9 : (fun w9 => va_P G classes w9 H_6 ∧ va_D A w9) [(aCo, .inr (9, [.int (iI zCo.size), .ref aCo_ops, .ref aCo_values, .ref aCo_extras, .ref aCo_ends, .ref aCo_elses, .ref aCo_heights, .ref aCo_targets, .int (iI zCo.labelCount), .ref aCo_labels, .ref aCo_labelTargets])), (aCo_heights, .inl (cI, 2000, .inl (fun k9 => iI (zCt.heights k9)))), (aCo_targets, .inl (cI, 2000, .inl (fun k9 => iI (zCt.targets k9)))), (aCo_labelTargets, .inl (cI, 2000, .inl (fun k9 => iI (zCt.labelTargets k9)))), (aBV, .inr (5, [.ref aWa, .ref aCo, .int (iI zBV.function), .ref aBV_types, .int (iI zBt.height), .ref aBV_openers, .ref aBV_bases, .ref aBV_blockTypes, .ref aBV_labelTypes, .ref aBV_unreachable, .int (iI (zBo.openCount + 1)), .int (bI zBV.failed)])), (aBV_openers, .inl (cI, 101, .inl (fun k9 => iI ((updZ zBo.openers zBo.openCount.toNat v_opener) k9)))), (aBV_bases, .inl (cI, 101, .inl (fun k9 => iI ((updZ zBo.bases zBo.openCount.toNat zBt.height) k9)))), (aBV_blockTypes, .inl (cI, 101, .inl (fun k9 => iI ((updZ zBo.blockTypes zBo.openCount.toNat v_blockType) k9)))), (aBV_labelTypes, .inl (cI, 101, .inl (fun k9 => iI ((updZ zBo.labelTypes zBo.openCount.toNat v_labelType) k9)))), (aBV_unreachable, .inl (cZ, 101, .inl (fun k9 => bI ((updB zBo.unreachable zBo.openCount.toNat false) k9))))] := ⟨hP_6, hD_6⟩
    clear hP_6 hD_6
    obtain ⟨hP_6, hD_6⟩ := hQ9
    refine lv_iload_n hx hb d_BV_openBlock_78 rfl (lv_at hl 1 rfl) ?_
    refine jpE hf (fun K_9 hK_9 hf9 => ?_)
    replace hf := hf9
    clear hf9
    have hJK_9 : ∀ (y_8 : KCt), KCt.Ok y_8 → K_9 y_8 = R9 → ∀ (H_6 : Heap) (locs_6 : List Loc), (fun w9 => va_P G classes w9 H_6 → va_D A w9 → va_S A s.heap H_6 locs_6 → ∀ (ls : Array Slot), lv_has ls 4 [(0, .ref aBV), (1, .int (iI v_opener)), (2, .int (iI v_blockType)), (3, .int (iI v_labelType))] → W p l e (headSpec (wx y_BV_openBlock b_BV_openBlock 4 none) { frames := 0, cells := 0, slots := 0, locals := 0 }).room s m ([.ref aBV, .int (iI v_opener), .int (iI v_blockType), .int (iI v_labelType)] : List Value).toArray below meth c H_6 locs_6 0 0 (MX below (XQ G classes A (fun o w1 => ozp R9 (fun x9 => (KCt.Ok x9.1 ∧ KBV.Ok x9.2.1 ∧ KBo.Ok x9.2.2) ∧ o = .returned none ∧ w1 = [(aCo, .inr (9, [.int (iI zCo.size), .ref aCo_ops, .ref aCo_values, .ref aCo_extras, .ref aCo_ends, .ref aCo_elses, .ref aCo_heights, .ref aCo_targets, .int (iI zCo.labelCount), .ref aCo_labels, .ref aCo_labelTargets])), (aCo_heights, .inl (cI, 2000, .inl (fun k9 => iI (x9.1.heights k9)))), (aCo_targets, .inl (cI, 2000, .inl (fun k9 => iI (x9.1.targets k9)))), (aCo_labelTargets, .inl (cI, 2000, .inl (fun k9 => iI (x9.1.labelTargets k9)))), (aBV, .inr (5, [.ref aWa, .ref aCo, .int (iI x9.2.1.function), .ref aBV_types, .int (iI zBt.height), .ref aBV_openers, .ref aBV_bases, .ref aBV_blockTypes, .ref aBV_labelTypes, .ref aBV_unreachable, .int (iI x9.2.2.openCount), .int (bI x9.2.1.failed)])), (aBV_openers, .inl (cI, 101, .inl (fun k9 => iI (x9.2.2.openers k9)))), (aBV_bases, .inl (cI, 101, .inl (fun k9 => iI (x9.2.2.bases k9)))), (aBV_blockTypes, .inl (cI, 101, .inl (fun k9 => iI (x9.2.2.blockTypes k9)))), (aBV_labelTypes, .inl (cI, 101, .inl (fun k9 => iI (x9.2.2.labelTypes k9)))), (aBV_unreachable, .inl (cZ, 101, .inl (fun k9 => bI (x9.2.2.unreachable k9))))]) (fun _ => False))) ([.ref aBV, .int (iI v_opener), .int (iI v_blockType), .int (iI v_labelType)] : List Value).toArray s 0 0 A) (F0 m 95 ls [])) [(aCo, .inr (9, [.int (iI zCo.size), .ref aCo_ops, .ref aCo_values, .ref aCo_extras, .ref aCo_ends, .ref aCo_elses, .ref aCo_heights, .ref aCo_targets, .int (iI zCo.labelCount), .ref aCo_labels, .ref aCo_labelTargets])), (aCo_heights, .inl (cI, 2000, .inl (fun k9 => iI (y_8.heights k9)))), (aCo_targets, .inl (cI, 2000, .inl (fun k9 => iI (y_8.targets k9)))), (aCo_labelTargets, .inl (cI, 2000, .inl (fun k9 => iI (y_8.labelTargets k9)))), (aBV, .inr (5, [.ref aWa, .ref aCo, .int (iI zBV.function), .ref aBV_types, .int (iI zBt.height), .ref aBV_openers, .ref aBV_bases, .ref aBV_blockTypes, .ref aBV_labelTypes, .ref aBV_unreachable, .int (iI (zBo.openCount + 1)), .int (bI zBV.failed)])), (aBV_openers, .inl (cI, 101, .inl (fun k9 => iI ((updZ zBo.openers zBo.openCount.toNat v_opener) k9)))), (aBV_bases, .inl (cI, 101, .inl (fun k9 => iI ((updZ zBo.bases zBo.openCount.toNat zBt.height) k9)))), (aBV_blockTypes, .inl (cI, 101, .inl (fun k9 => iI ((updZ zBo.blockTypes zBo.openCount.toNat v_blockType) k9)))), (aBV_labelTypes, .inl (cI, 101, .inl (fun k9 => iI ((updZ zBo.labelTypes zBo.openCount.toNat v_labelType) k9)))), (aBV_unreachable, .inl (cZ, 101, .inl (fun k9 => bI ((updB zBo.unreachable zBo.openCount.toNat false) k9))))] := by
      intro y_8 hy_8 hf H_8 locs_8 hP_8 hD_8 hS_8 ls hl
      clear hS_6 hD_6 hP_6
      replace hf := (congrFun hK_9 y_8).symm.trans hf
      clear hK_9
      exact ex_W (fun _ h => ex_mq h) (W.vret hx hb hr (fun t ht hW => ⟨⟨_, ozr hf ⟨⟨hy_8, hzBV, (KBo.Ok.mk (updZ_ok hzBo.openers hv_opener) (updZ_ok hzBo.bases hzBt.height) (updZ_ok hzBo.blockTypes hv_blockType) (updZ_ok hzBo.labelTypes hv_labelType) g_7 : KBo.Ok (KBo.mk (updZ zBo.openers zBo.openCount.toNat v_opener) (updZ zBo.bases zBo.openCount.toNat zBt.height) (updZ zBo.blockTypes zBo.openCount.toNat v_blockType) (updZ zBo.labelTypes zBo.openCount.toNat v_labelType) (updB zBo.unreachable zBo.openCount.toNat false) (zBo.openCount + 1)))⟩, rfl, rfl⟩, by rw [ht]; exact hP_8, hD_8⟩, hS_8.F ht⟩) hS_8.2.2 d_BV_openBlock_95)
    clear hK_9
    refine lv_if_lt (tgt := 95) hx hb d_BV_openBlock_79 (by decide) (fun c_10 => ?_) (fun c_10 => ?_)
    · have c_10 := ((zv_lt (iI_t hv_opener) zero_v)).mp c_10
      replace hf := ifp c_10 hf
      exact hJK_9 zCt hzCt hf _ _ hP_6 hD_6 hS_6 _ (lv_sub hl [0, 1, 2, 3] rfl)
    · have c_10 := (fun q9 => c_10 (((zv_lt (iI_t hv_opener) zero_v)).mpr q9))
      replace hf := ifn c_10 hf
      refine lv_aload_n hx hb d_BV_openBlock_82 rfl (lv_at hl 0 rfl) ?_
      refine va_get (D := G) (ci := 5) (v := .ref aCo) (C := R_BV) (T := F_BV) (N := 12) hx hb hts i_BV hown hK hP_6 4 rfl rfl 1 (by decide) (hts _ m_109) (fun _ h9 => h9) rfl d_BV_openBlock_83 ?_
      refine va_get (D := G) (ci := 9) (v := .ref aCo_heights) (C := R_Co) (T := F_Co) (N := 11) hx hb hts i_Co hown hK hP_6 0 rfl rfl 6 (by decide) (hts _ m_279) (fun _ h9 => h9) rfl d_BV_openBlock_86 ?_
      refine lv_iload_n hx hb d_BV_openBlock_89 rfl (lv_at hl 1 rfl) ?_
      refine lv_aload_n hx hb d_BV_openBlock_90 rfl (lv_at hl 0 rfl) ?_
      refine va_get (D := G) (ci := 5) (v := .int (iI zBt.height)) (C := R_BV) (T := F_BV) (N := 12) hx hb hts i_BV hown hK hP_6 4 rfl rfl 4 (by decide) (hts _ m_112) (fun _ h9 => h9) rfl d_BV_openBlock_91 ?_
      replace hf := grd hnb hf
      obtain ⟨g_11, hf⟩ := hf
      refine va_iast hx hb hK hP_6 hD_6 hS_6 1 1 rfl rfl (vp_in_iI hv_opener g_11) d_BV_openBlock_94 (fun H_9 locs_9 hP_9 hD_9 hS_9 => ?_)
      clear hS_6 hD_6 hP_6
      rw [iI_clamp hv_opener, upd_iI] at hP_9 hD_9
      have hQ9 : (fun w9 => va_P G classes w9 H_9 ∧ va_D A w9) [(aCo, .inr (9, [.int (iI zCo.size), .ref aCo_ops, .ref aCo_values, .ref aCo_extras, .ref aCo_ends, .ref aCo_elses, .ref aCo_heights, .ref aCo_targets, .int (iI zCo.labelCount), .ref aCo_labels, .ref aCo_labelTargets])), (aCo_heights, .inl (cI, 2000, .inl (fun k9 => iI ((updZ zCt.heights v_opener.toNat zBt.height) k9)))), (aCo_targets, .inl (cI, 2000, .inl (fun k9 => iI (zCt.targets k9)))), (aCo_labelTargets, .inl (cI, 2000, .inl (fun k9 => iI (zCt.labelTargets k9)))), (aBV, .inr (5, [.ref aWa, .ref aCo, .int (iI zBV.function), .ref aBV_types, .int (iI zBt.height), .ref aBV_openers, .ref aBV_bases, .ref aBV_blockTypes, .ref aBV_labelTypes, .ref aBV_unreachable, .int (iI (zBo.openCount + 1)), .int (bI zBV.failed)])), (aBV_openers, .inl (cI, 101, .inl (fun k9 => iI ((updZ zBo.openers zBo.openCount.toNat v_opener) k9)))), (aBV_bases, .inl (cI, 101, .inl (fun k9 => iI ((updZ zBo.bases zBo.openCount.toNat zBt.height) k9)))), (aBV_blockTypes, .inl (cI, 101, .inl (fun k9 => iI ((updZ zBo.blockTypes zBo.openCount.toNat v_blockType) k9)))), (aBV_labelTypes, .inl (cI, 101, .inl (fun k9 => iI ((updZ zBo.labelTypes zBo.openCount.toNat v_labelType) k9)))), (aBV_unreachable, .inl (cZ, 101, .inl (fun k9 => bI ((updB zBo.unreachable zBo.openCount.toNat false) k9))))] := ⟨hP_9, hD_9⟩
      clear hP_9 hD_9
      obtain ⟨hP_9, hD_9⟩ := hQ9
      exact hJK_9 (KCt.mk (updZ zCt.heights v_opener.toNat zBt.height) zCt.targets zCt.labelTargets) (KCt.Ok.mk (updZ_ok hzCt.heights hzBt.height) hzCt.targets hzCt.labelTargets : KCt.Ok (KCt.mk (updZ zCt.heights v_opener.toNat zBt.height) zCt.targets zCt.labelTargets)) hf _ _ hP_9 hD_9 hS_9 _ (lv_sub hl [0, 1, 2, 3] rfl)
  · have c_1 := (fun q9 => c_1 (((zv_lt (iI_t hzBo.openCount) (iI_t (show R32 (101) by decide)))).mpr q9))
    replace hf := ifn c_1 hf
    refine lv_aload_n hx hb d_BV_openBlock_9 rfl (lv_at hl 0 rfl) ?_
    refine lv_iconst (v := iI 1) hx hb d_BV_openBlock_10 (by decide) ?_
    refine W.eq (g2 := F0 m 11 ls [.int (bI true), .ref aBV]) (by rfl) ?_
    refine va_put (D := G) (ci := 5) (v := .int (bI true)) (ty := .boolean) (C := R_BV) (T := F_BV) (N := 12) hx hb hts i_BV t_BV t_BV_ok n_BV hown hK hP hD hS 4 rfl rfl 11 (by decide) (hts _ m_119) (fun _ h9 => h9) rfl (by decide +kernel) (bI_nar _) (bI_fit _) (Nat.le_of_ble_eq_true rfl) d_BV_openBlock_11 (fun H_10 locs_10 hP_10 hD_10 hS_10 => ?_)
    clear hS hD hP
    have hQ9 : (fun w9 => va_P G classes w9 H_10 ∧ va_D A w9) [(aCo, .inr (9, [.int (iI zCo.size), .ref aCo_ops, .ref aCo_values, .ref aCo_extras, .ref aCo_ends, .ref aCo_elses, .ref aCo_heights, .ref aCo_targets, .int (iI zCo.labelCount), .ref aCo_labels, .ref aCo_labelTargets])), (aCo_heights, .inl (cI, 2000, .inl (fun k9 => iI (zCt.heights k9)))), (aCo_targets, .inl (cI, 2000, .inl (fun k9 => iI (zCt.targets k9)))), (aCo_labelTargets, .inl (cI, 2000, .inl (fun k9 => iI (zCt.labelTargets k9)))), (aBV, .inr (5, [.ref aWa, .ref aCo, .int (iI zBV.function), .ref aBV_types, .int (iI zBt.height), .ref aBV_openers, .ref aBV_bases, .ref aBV_blockTypes, .ref aBV_labelTypes, .ref aBV_unreachable, .int (iI zBo.openCount), .int (bI true)])), (aBV_openers, .inl (cI, 101, .inl (fun k9 => iI (zBo.openers k9)))), (aBV_bases, .inl (cI, 101, .inl (fun k9 => iI (zBo.bases k9)))), (aBV_blockTypes, .inl (cI, 101, .inl (fun k9 => iI (zBo.blockTypes k9)))), (aBV_labelTypes, .inl (cI, 101, .inl (fun k9 => iI (zBo.labelTypes k9)))), (aBV_unreachable, .inl (cZ, 101, .inl (fun k9 => bI (zBo.unreachable k9))))] := ⟨hP_10, hD_10⟩
    clear hP_10 hD_10
    obtain ⟨hP_10, hD_10⟩ := hQ9
    exact ex_W (fun _ h => ex_mq h) (W.vret hx hb hr (fun t ht hW => ⟨⟨_, ozr hf ⟨⟨hzCt, (KBV.Ok.mk hzBV.function : KBV.Ok (KBV.mk zBV.function true)), hzBo⟩, rfl, rfl⟩, by rw [ht]; exact hP_10, hD_10⟩, hS_10.F ht⟩) hS_10.2.2 d_BV_openBlock_14)
set_option maxHeartbeats 8000000 in
set_option maxRecDepth 100000 in
theorem k_BV_push (l : Launch) (htr : l.stackTraces = false) (G : va_G) (cB cI cJ cZ cG : ClassId) (aBV : Nat) (aWa : Nat) (aCo : Nat) (aBV_types : Nat) (aBV_openers : Nat) (aBV_bases : Nat) (aBV_blockTypes : Nat) (aBV_labelTypes : Nat) (aBV_unreachable : Nat) (zBV : KBV) (zBt : KBt) (zBo : KBo) (hzBV : KBV.Ok zBV) (hzBt : KBt.Ok zBt) (hzBo : KBo.Ok zBo) (v_type : Int) (hv_type : R32 v_type) (R9 : Out Empty (KBV × KBt)) (hf : f_BV_push zBV zBt v_type = R9) (hnb : R9 ≠ .bad) (sz : Nat) : MetX l y_BV_push (wx y_BV_push b_BV_push 2 none) { frames := 0, cells := 0, slots := 0, locals := 0 } (XP G classes (xtys cB cI cJ cZ cG) xE [.ref aBV, .int (iI v_type)] [(aBV, .inr (5, [.ref aWa, .ref aCo, .int (iI zBV.function), .ref aBV_types, .int (iI zBt.height), .ref aBV_openers, .ref aBV_bases, .ref aBV_blockTypes, .ref aBV_labelTypes, .ref aBV_unreachable, .int (iI zBo.openCount), .int (bI zBV.failed)])), (aBV_types, .inl (cI, 2000, .inl (fun k9 => iI (zBt.types k9))))] sz) (XQ G classes (va_A [(aBV, .inr (5, [.ref aWa, .ref aCo, .int (iI zBV.function), .ref aBV_types, .int (iI zBt.height), .ref aBV_openers, .ref aBV_bases, .ref aBV_blockTypes, .ref aBV_labelTypes, .ref aBV_unreachable, .int (iI zBo.openCount), .int (bI zBV.failed)])), (aBV_types, .inl (cI, 2000, .inl (fun k9 => iI (zBt.types k9))))] sz) (fun o w1 => ozp R9 (fun x9 => (KBV.Ok x9.1 ∧ KBt.Ok x9.2) ∧ o = .returned none ∧ w1 = [(aBV, .inr (5, [.ref aWa, .ref aCo, .int (iI x9.1.function), .ref aBV_types, .int (iI x9.2.height), .ref aBV_openers, .ref aBV_bases, .ref aBV_blockTypes, .ref aBV_labelTypes, .ref aBV_unreachable, .int (iI zBo.openCount), .int (bI x9.1.failed)])), (aBV_types, .inl (cI, 2000, .inl (fun k9 => iI (x9.2.types k9))))]) (fun _ => False))) 0 0 (va_A [(aBV, .inr (5, [.ref aWa, .ref aCo, .int (iI zBV.function), .ref aBV_types, .int (iI zBt.height), .ref aBV_openers, .ref aBV_bases, .ref aBV_blockTypes, .ref aBV_labelTypes, .ref aBV_unreachable, .int (iI zBo.openCount), .int (bI zBV.failed)])), (aBV_types, .inl (cI, 2000, .inl (fun k9 => iI (zBt.types k9))))] sz) := by
  refine ex_ofW (cc := b_BV_push) (maxL := 2) (ret := none) (by decide) rfl ?_
  intro p e s m args below meth c s₁ B hml hno hv
  obtain ⟨rfl, hsz, hP, hK, hD0, hE⟩ := hv
  have hx := B.exec
  have hb := B.bytes
  have hr := B.returns
  have hts : ∀ w ∈ lw_good, w.before _ s = true := fun w h => atoms_spec (ws := wx y_BV_push b_BV_push 2 none) B.pre w (List.mem_cons_of_mem _ h)
  have hown : s.vm.findClass R_BV = some m.cls := findClass_of_methodNamed B.named
  have hlocks := B.notSynchronized
  subst hsz
  have hNS := xx_nostat hP
  have hD := hD0.self (sz := s.heap.size)
  generalize hAe : va_A [(aBV, .inr (5, [.ref aWa, .ref aCo, .int (iI zBV.function), .ref aBV_types, .int (iI zBt.height), .ref aBV_openers, .ref aBV_bases, .ref aBV_blockTypes, .ref aBV_labelTypes, .ref aBV_unreachable, .int (iI zBo.openCount), .int (bI zBV.failed)])), (aBV_types, .inl (cI, 2000, .inl (fun k9 => iI (zBt.types k9))))] s.heap.size = A at hD hE hNS ⊢
  have hA : ∀ q : Nat, s.heap.size ≤ q → A q := fun q h => by rw [← hAe]; exact Or.inr h
  have hS : va_S A s.heap s.heap [] := va_S.rf
  have hl := lv_entry ([.ref aBV, .int (iI v_type)]) (n := 2) (Nat.le_of_ble_eq_true rfl)
  rw [lg_entry_eq]
  generalize (lg_sl ([.ref aBV, .int (iI v_type)]) ++ List.replicate (2 - (lg_sl ([.ref aBV, .int (iI v_type)])).length) Slot.unset).toArray = ls at hl ⊢
  have hl : lv_has ls 2 [(0, .ref aBV), (1, .int (iI v_type))] := hl
  unfold f_BV_push at hf
  refine lv_iload_n hx hb d_BV_push_0 rfl (lv_at hl 1 rfl) ?_
  refine lv_bipush (v := iI 64) hx hb d_BV_push_1 (by decide) ?_
  refine lv_icmp_ne (tgt := 7) hx hb d_BV_push_3 (by decide) (fun c_1 => ?_) (fun c_1 => ?_)
  · have c_1 := (fun q9 => c_1 (((zv_eq (iI_t hv_type) (iI_t (show R32 (64) by decide)))).mpr q9))
    replace hf := ifn c_1 hf
    refine lv_aload_n hx hb d_BV_push_7 rfl (lv_at hl 0 rfl) ?_
    refine va_get (D := G) (ci := 5) (v := .int (iI zBt.height)) (C := R_BV) (T := F_BV) (N := 12) hx hb hts i_BV hown hK hP 0 rfl rfl 4 (by decide) (hts _ m_112) (fun _ h9 => h9) rfl d_BV_push_8 ?_
    refine lv_aload_n hx hb d_BV_push_11 rfl (lv_at hl 0 rfl) ?_
    refine va_get (D := G) (ci := 5) (v := .ref aBV_types) (C := R_BV) (T := F_BV) (N := 12) hx hb hts i_BV hown hK hP 0 rfl rfl 3 (by decide) (hts _ m_111) (fun _ h9 => h9) rfl d_BV_push_12 ?_
    refine va_alen (v := iI 2000) hx hb hK hP 1 1 rfl rfl (show Int32.ofNat 2000 = iI 2000 by decide) d_BV_push_15 ?_
    refine lv_icmp_lt (tgt := 25) hx hb d_BV_push_16 (by decide) (fun c_2 => ?_) (fun c_2 => ?_)
    · have c_2 := ((zv_lt (iI_t hzBt.height) (iI_t (show R32 (2000) by decide)))).mp c_2
      replace hf := ifp c_2 hf
      refine lv_aload_n hx hb d_BV_push_25 rfl (lv_at hl 0 rfl) ?_
      refine va_get (D := G) (ci := 5) (v := .ref aBV_types) (C := R_BV) (T := F_BV) (N := 12) hx hb hts i_BV hown hK hP 0 rfl rfl 3 (by decide) (hts _ m_111) (fun _ h9 => h9) rfl d_BV_push_26 ?_
      refine lv_aload_n hx hb d_BV_push_29 rfl (lv_at hl 0 rfl) ?_
      refine va_get (D := G) (ci := 5) (v := .int (iI zBt.height)) (C := R_BV) (T := F_BV) (N := 12) hx hb hts i_BV hown hK hP 0 rfl rfl 4 (by decide) (hts _ m_112) (fun _ h9 => h9) rfl d_BV_push_30 ?_
      refine lv_iload_n hx hb d_BV_push_33 rfl (lv_at hl 1 rfl) ?_
      replace hf := grd hnb hf
      obtain ⟨g_3, hf⟩ := hf
      refine va_iast hx hb hK hP hD hS 1 1 rfl rfl (vp_in_iI hzBt.height g_3) d_BV_push_34 (fun H_1 locs_1 hP_1 hD_1 hS_1 => ?_)
      clear hS hD hP
      rw [iI_clamp hzBt.height, upd_iI] at hP_1 hD_1
      have hQ9 : (fun w9 => va_P G classes w9 H_1 ∧ va_D A w9) [(aBV, .inr (5, [.ref aWa, .ref aCo, .int (iI zBV.function), .ref aBV_types, .int (iI zBt.height), .ref aBV_openers, .ref aBV_bases, .ref aBV_blockTypes, .ref aBV_labelTypes, .ref aBV_unreachable, .int (iI zBo.openCount), .int (bI zBV.failed)])), (aBV_types, .inl (cI, 2000, .inl (fun k9 => iI ((updZ zBt.types zBt.height.toNat v_type) k9))))] := ⟨hP_1, hD_1⟩
      clear hP_1 hD_1
      obtain ⟨hP_1, hD_1⟩ := hQ9
      refine lv_aload_n hx hb d_BV_push_35 rfl (lv_at hl 0 rfl) ?_
      refine lv_dup hx hb d_BV_push_36 rfl ?_
      refine va_get (D := G) (ci := 5) (v := .int (iI zBt.height)) (C := R_BV) (T := F_BV) (N := 12) hx hb hts i_BV hown hK hP_1 0 rfl rfl 4 (by decide) (hts _ m_112) (fun _ h9 => h9) rfl d_BV_push_37 ?_
      refine lv_iconst (v := iI 1) hx hb d_BV_push_40 (by decide) ?_
      refine lv_iadd hx hb d_BV_push_41 ?_
      refine lv_topi (fun x9 e9 => ?_)
      obtain rfl : x9 = iI (zBt.height + 1) := e9.trans (iI_add _ _)
      replace hf := grd hnb hf
      obtain ⟨g_4, hf⟩ := hf
      refine va_put (D := G) (ci := 5) (v := .int (iI (zBt.height + 1))) (ty := .int) (C := R_BV) (T := F_BV) (N := 12) hx hb hts i_BV t_BV t_BV_ok n_BV hown hK hP_1 hD_1 hS_1 0 rfl rfl 4 (by decide) (hts _ m_112) (fun _ h9 => h9) rfl (by decide +kernel) rfl rfl (Nat.le_of_ble_eq_true rfl) d_BV_push_42 (fun H_2 locs_2 hP_2 hD_2 hS_2 => ?_)
      clear hS_1 hD_1 hP_1
      have hQ9 : (fun w9 => va_P G classes w9 H_2 ∧ va_D A w9) [(aBV, .inr (5, [.ref aWa, .ref aCo, .int (iI zBV.function), .ref aBV_types, .int (iI (zBt.height + 1)), .ref aBV_openers, .ref aBV_bases, .ref aBV_blockTypes, .ref aBV_labelTypes, .ref aBV_unreachable, .int (iI zBo.openCount), .int (bI zBV.failed)])), (aBV_types, .inl (cI, 2000, .inl (fun k9 => iI ((updZ zBt.types zBt.height.toNat v_type) k9))))] := ⟨hP_2, hD_2⟩
      clear hP_2 hD_2
      obtain ⟨hP_2, hD_2⟩ := hQ9
      exact ex_W (fun _ h => ex_mq h) (W.vret hx hb hr (fun t ht hW => ⟨⟨_, ozr hf ⟨⟨hzBV, (KBt.Ok.mk (updZ_ok hzBt.types hv_type) g_4 : KBt.Ok (KBt.mk (updZ zBt.types zBt.height.toNat v_type) (zBt.height + 1)))⟩, rfl, rfl⟩, by rw [ht]; exact hP_2, hD_2⟩, hS_2.F ht⟩) hS_2.2.2 d_BV_push_45)
    · have c_2 := (fun q9 => c_2 (((zv_lt (iI_t hzBt.height) (iI_t (show R32 (2000) by decide)))).mpr q9))
      replace hf := ifn c_2 hf
      refine lv_aload_n hx hb d_BV_push_19 rfl (lv_at hl 0 rfl) ?_
      refine lv_iconst (v := iI 1) hx hb d_BV_push_20 (by decide) ?_
      refine W.eq (g2 := F0 m 21 ls [.int (bI true), .ref aBV]) (by rfl) ?_
      refine va_put (D := G) (ci := 5) (v := .int (bI true)) (ty := .boolean) (C := R_BV) (T := F_BV) (N := 12) hx hb hts i_BV t_BV t_BV_ok n_BV hown hK hP hD hS 0 rfl rfl 11 (by decide) (hts _ m_119) (fun _ h9 => h9) rfl (by decide +kernel) (bI_nar _) (bI_fit _) (Nat.le_of_ble_eq_true rfl) d_BV_push_21 (fun H_3 locs_3 hP_3 hD_3 hS_3 => ?_)
      clear hS hD hP
      have hQ9 : (fun w9 => va_P G classes w9 H_3 ∧ va_D A w9) [(aBV, .inr (5, [.ref aWa, .ref aCo, .int (iI zBV.function), .ref aBV_types, .int (iI zBt.height), .ref aBV_openers, .ref aBV_bases, .ref aBV_blockTypes, .ref aBV_labelTypes, .ref aBV_unreachable, .int (iI zBo.openCount), .int (bI true)])), (aBV_types, .inl (cI, 2000, .inl (fun k9 => iI (zBt.types k9))))] := ⟨hP_3, hD_3⟩
      clear hP_3 hD_3
      obtain ⟨hP_3, hD_3⟩ := hQ9
      exact ex_W (fun _ h => ex_mq h) (W.vret hx hb hr (fun t ht hW => ⟨⟨_, ozr hf ⟨⟨(KBV.Ok.mk hzBV.function : KBV.Ok (KBV.mk zBV.function true)), hzBt⟩, rfl, rfl⟩, by rw [ht]; exact hP_3, hD_3⟩, hS_3.F ht⟩) hS_3.2.2 d_BV_push_24)
  · have c_1 := ((zv_eq (iI_t hv_type) (iI_t (show R32 (64) by decide)))).mp c_1
    replace hf := ifp c_1 hf
    exact ex_W (fun _ h => ex_mq h) (W.vret hx hb hr (fun t ht hW => ⟨⟨_, ozr hf ⟨⟨hzBV, hzBt⟩, rfl, rfl⟩, by rw [ht]; exact hP, hD⟩, hS.F ht⟩) hS.2.2 d_BV_push_6)
set_option maxHeartbeats 8000000 in
set_option maxRecDepth 100000 in
theorem k_BV_pop (l : Launch) (htr : l.stackTraces = false) (G : va_G) (cB cI cJ cZ cG : ClassId) (aBV : Nat) (aWa : Nat) (aCo : Nat) (aBV_types : Nat) (aBV_openers : Nat) (aBV_bases : Nat) (aBV_blockTypes : Nat) (aBV_labelTypes : Nat) (aBV_unreachable : Nat) (zBV : KBV) (zBt : KBt) (zBo : KBo) (hzBV : KBV.Ok zBV) (hzBt : KBt.Ok zBt) (hzBo : KBo.Ok zBo) (v_wanted : Int) (hv_wanted : R32 v_wanted) (R9 : Out Empty (KBV × KBt × Int)) (hf : f_BV_pop zBV zBt zBo v_wanted = R9) (hnb : R9 ≠ .bad) (sz : Nat) : MetX l y_BV_pop (wx y_BV_pop b_BV_pop 3 (some .int)) { frames := 0, cells := 0, slots := 0, locals := 0 } (XP G classes (xtys cB cI cJ cZ cG) xE [.ref aBV, .int (iI v_wanted)] [(aBV, .inr (5, [.ref aWa, .ref aCo, .int (iI zBV.function), .ref aBV_types, .int (iI zBt.height), .ref aBV_openers, .ref aBV_bases, .ref aBV_blockTypes, .ref aBV_labelTypes, .ref aBV_unreachable, .int (iI zBo.openCount), .int (bI zBV.failed)])), (aBV_types, .inl (cI, 2000, .inl (fun k9 => iI (zBt.types k9)))), (aBV_bases, .inl (cI, 101, .inl (fun k9 => iI (zBo.bases k9)))), (aBV_unreachable, .inl (cZ, 101, .inl (fun k9 => bI (zBo.unreachable k9))))] sz) (XQ G classes (va_A [(aBV, .inr (5, [.ref aWa, .ref aCo, .int (iI zBV.function), .ref aBV_types, .int (iI zBt.height), .ref aBV_openers, .ref aBV_bases, .ref aBV_blockTypes, .ref aBV_labelTypes, .ref aBV_unreachable, .int (iI zBo.openCount), .int (bI zBV.failed)])), (aBV_types, .inl (cI, 2000, .inl (fun k9 => iI (zBt.types k9)))), (aBV_bases, .inl (cI, 101, .inl (fun k9 => iI (zBo.bases k9)))), (aBV_unreachable, .inl (cZ, 101, .inl (fun k9 => bI (zBo.unreachable k9))))] sz) (fun o w1 => ozp R9 (fun x9 => (KBV.Ok x9.1 ∧ KBt.Ok x9.2.1 ∧ R32 x9.2.2) ∧ o = .returned (some (.int (iI x9.2.2))) ∧ w1 = [(aBV, .inr (5, [.ref aWa, .ref aCo, .int (iI x9.1.function), .ref aBV_types, .int (iI x9.2.1.height), .ref aBV_openers, .ref aBV_bases, .ref aBV_blockTypes, .ref aBV_labelTypes, .ref aBV_unreachable, .int (iI zBo.openCount), .int (bI x9.1.failed)])), (aBV_types, .inl (cI, 2000, .inl (fun k9 => iI (x9.2.1.types k9)))), (aBV_bases, .inl (cI, 101, .inl (fun k9 => iI (zBo.bases k9)))), (aBV_unreachable, .inl (cZ, 101, .inl (fun k9 => bI (zBo.unreachable k9))))]) (fun _ => False))) 0 0 (va_A [(aBV, .inr (5, [.ref aWa, .ref aCo, .int (iI zBV.function), .ref aBV_types, .int (iI zBt.height), .ref aBV_openers, .ref aBV_bases, .ref aBV_blockTypes, .ref aBV_labelTypes, .ref aBV_unreachable, .int (iI zBo.openCount), .int (bI zBV.failed)])), (aBV_types, .inl (cI, 2000, .inl (fun k9 => iI (zBt.types k9)))), (aBV_bases, .inl (cI, 101, .inl (fun k9 => iI (zBo.bases k9)))), (aBV_unreachable, .inl (cZ, 101, .inl (fun k9 => bI (zBo.unreachable k9))))] sz) := by
  refine ex_ofW (cc := b_BV_pop) (maxL := 3) (ret := (some .int)) (by decide) rfl ?_
  intro p e s m args below meth c s₁ B hml hno hv
  obtain ⟨rfl, hsz, hP, hK, hD0, hE⟩ := hv
  have hx := B.exec
  have hb := B.bytes
  have hr := B.returns
  have hts : ∀ w ∈ lw_good, w.before _ s = true := fun w h => atoms_spec (ws := wx y_BV_pop b_BV_pop 3 (some .int)) B.pre w (List.mem_cons_of_mem _ h)
  have hown : s.vm.findClass R_BV = some m.cls := findClass_of_methodNamed B.named
  have hlocks := B.notSynchronized
  subst hsz
  have hNS := xx_nostat hP
  have hD := hD0.self (sz := s.heap.size)
  generalize hAe : va_A [(aBV, .inr (5, [.ref aWa, .ref aCo, .int (iI zBV.function), .ref aBV_types, .int (iI zBt.height), .ref aBV_openers, .ref aBV_bases, .ref aBV_blockTypes, .ref aBV_labelTypes, .ref aBV_unreachable, .int (iI zBo.openCount), .int (bI zBV.failed)])), (aBV_types, .inl (cI, 2000, .inl (fun k9 => iI (zBt.types k9)))), (aBV_bases, .inl (cI, 101, .inl (fun k9 => iI (zBo.bases k9)))), (aBV_unreachable, .inl (cZ, 101, .inl (fun k9 => bI (zBo.unreachable k9))))] s.heap.size = A at hD hE hNS ⊢
  have hA : ∀ q : Nat, s.heap.size ≤ q → A q := fun q h => by rw [← hAe]; exact Or.inr h
  have hS : va_S A s.heap s.heap [] := va_S.rf
  have hl := lv_entry ([.ref aBV, .int (iI v_wanted)]) (n := 3) (Nat.le_of_ble_eq_true rfl)
  rw [lg_entry_eq]
  generalize (lg_sl ([.ref aBV, .int (iI v_wanted)]) ++ List.replicate (3 - (lg_sl ([.ref aBV, .int (iI v_wanted)])).length) Slot.unset).toArray = ls at hl ⊢
  have hl : lv_has ls 3 [(0, .ref aBV), (1, .int (iI v_wanted))] := hl
  unfold f_BV_pop at hf
  refine lv_iload_n hx hb d_BV_pop_0 rfl (lv_at hl 1 rfl) ?_
  refine lv_bipush (v := iI 64) hx hb d_BV_pop_1 (by decide) ?_
  refine lv_icmp_ne (tgt := 9) hx hb d_BV_pop_3 (by decide) (fun c_1 => ?_) (fun c_1 => ?_)
  · have c_1 := (fun q9 => c_1 (((zv_eq (iI_t hv_wanted) (iI_t (show R32 (64) by decide)))).mpr q9))
    replace hf := ifn c_1 hf
    refine lv_aload_n hx hb d_BV_pop_9 rfl (lv_at hl 0 rfl) ?_
    refine va_get (D := G) (ci := 5) (v := .int (iI zBt.height)) (C := R_BV) (T := F_BV) (N := 12) hx hb hts i_BV hown hK hP 0 rfl rfl 4 (by decide) (hts _ m_112) (fun _ h9 => h9) rfl d_BV_pop_10 ?_
    refine lv_aload_n hx hb d_BV_pop_13 rfl (lv_at hl 0 rfl) ?_
    refine va_get (D := G) (ci := 5) (v := .ref aBV_bases) (C := R_BV) (T := F_BV) (N := 12) hx hb hts i_BV hown hK hP 0 rfl rfl 6 (by decide) (hts _ m_114) (fun _ h9 => h9) rfl d_BV_pop_14 ?_
    refine lv_aload_n hx hb d_BV_pop_17 rfl (lv_at hl 0 rfl) ?_
    refine va_get (D := G) (ci := 5) (v := .int (iI zBo.openCount)) (C := R_BV) (T := F_BV) (N := 12) hx hb hts i_BV hown hK hP 0 rfl rfl 10 (by decide) (hts _ m_118) (fun _ h9 => h9) rfl d_BV_pop_18 ?_
    refine lv_iconst (v := iI 1) hx hb d_BV_pop_21 (by decide) ?_
    refine lv_isub hx hb d_BV_pop_22 ?_
    refine lv_topi (fun x9 e9 => ?_)
    obtain rfl : x9 = iI (zBo.openCount - 1) := e9.trans (iI_sub _ _)
    replace hf := grd hnb hf
    obtain ⟨g_2, hf⟩ := hf
    replace hf := grd hnb hf
    obtain ⟨g_3, hf⟩ := hf
    refine va_iald hx hb hK hP 2 1 rfl rfl (vp_in_iI g_2 g_3) d_BV_pop_23 ?_
    refine W.eq (g2 := F0 m 24 ls [.int (iI (zBo.bases (zBo.openCount - 1).toNat)), .int (iI zBt.height)]) (by rw [iI_clamp g_2] <;> rfl) ?_
    refine lv_icmp_gt (tgt := 59) hx hb d_BV_pop_24 (by decide) (fun c_4 => ?_) (fun c_4 => ?_)
    · have c_4 := ((zv_lt (iI_t (hzBo.bases _)) (iI_t hzBt.height))).mp c_4
      replace hf := ifp c_4 hf
      refine lv_aload_n hx hb d_BV_pop_59 rfl (lv_at hl 0 rfl) ?_
      refine lv_dup hx hb d_BV_pop_60 rfl ?_
      refine va_get (D := G) (ci := 5) (v := .int (iI zBt.height)) (C := R_BV) (T := F_BV) (N := 12) hx hb hts i_BV hown hK hP 0 rfl rfl 4 (by decide) (hts _ m_112) (fun _ h9 => h9) rfl d_BV_pop_61 ?_
      refine lv_iconst (v := iI 1) hx hb d_BV_pop_64 (by decide) ?_
      refine lv_isub hx hb d_BV_pop_65 ?_
      refine lv_topi (fun x9 e9 => ?_)
      obtain rfl : x9 = iI (zBt.height - 1) := e9.trans (iI_sub _ _)
      replace hf := grd hnb hf
      obtain ⟨g_5, hf⟩ := hf
      refine va_put (D := G) (ci := 5) (v := .int (iI (zBt.height - 1))) (ty := .int) (C := R_BV) (T := F_BV) (N := 12) hx hb hts i_BV t_BV t_BV_ok n_BV hown hK hP hD hS 0 rfl rfl 4 (by decide) (hts _ m_112) (fun _ h9 => h9) rfl (by decide +kernel) rfl rfl (Nat.le_of_ble_eq_true rfl) d_BV_pop_66 (fun H_1 locs_1 hP_1 hD_1 hS_1 => ?_)
      clear hS hD hP
      have hQ9 : (fun w9 => va_P G classes w9 H_1 ∧ va_D A w9) [(aBV, .inr (5, [.ref aWa, .ref aCo, .int (iI zBV.function), .ref aBV_types, .int (iI (zBt.height - 1)), .ref aBV_openers, .ref aBV_bases, .ref aBV_blockTypes, .ref aBV_labelTypes, .ref aBV_unreachable, .int (iI zBo.openCount), .int (bI zBV.failed)])), (aBV_types, .inl (cI, 2000, .inl (fun k9 => iI (zBt.types k9)))), (aBV_bases, .inl (cI, 101, .inl (fun k9 => iI (zBo.bases k9)))), (aBV_unreachable, .inl (cZ, 101, .inl (fun k9 => bI (zBo.unreachable k9))))] := ⟨hP_1, hD_1⟩
      clear hP_1 hD_1
      obtain ⟨hP_1, hD_1⟩ := hQ9
      refine lv_aload_n hx hb d_BV_pop_69 rfl (lv_at hl 0 rfl) ?_
      refine va_get (D := G) (ci := 5) (v := .ref aBV_types) (C := R_BV) (T := F_BV) (N := 12) hx hb hts i_BV hown hK hP_1 0 rfl rfl 3 (by decide) (hts _ m_111) (fun _ h9 => h9) rfl d_BV_pop_70 ?_
      refine lv_aload_n hx hb d_BV_pop_73 rfl (lv_at hl 0 rfl) ?_
      refine va_get (D := G) (ci := 5) (v := .int (iI (zBt.height - 1))) (C := R_BV) (T := F_BV) (N := 12) hx hb hts i_BV hown hK hP_1 0 rfl rfl 4 (by decide) (hts _ m_112) (fun _ h9 => h9) rfl d_BV_pop_74 ?_
      replace hf := grd hnb hf
      obtain ⟨g_6, hf⟩ := hf
      refine va_iald hx hb hK hP_1 1 1 rfl rfl (vp_in_iI g_5 g_6) d_BV_pop_77 ?_
      refine W.eq (g2 := F0 m 78 ls [.int (iI (zBt.types (zBt.height - 1).toNat))]) (by rw [iI_clamp g_5] <;> rfl) ?_
      refine lv_istore_n (lv' := [(2, .int (iI (zBt.types (zBt.height - 1).toNat))), (0, .ref aBV), (1, .int (iI v_wanted))]) hx hb d_BV_pop_78 rfl hl (by decide) rfl (fun ls hl => ?_)
      refine lv_iload_n hx hb d_BV_pop_79 rfl (lv_at hl 0 rfl) ?_
      refine lv_if_ne (tgt := 85) hx hb d_BV_pop_80 (by decide) (fun c_7 => ?_) (fun c_7 => ?_)
      · have c_7 := (fun q9 => c_7 (((zv_eq (iI_t (hzBt.types _)) zero_v)).mpr q9))
        replace hf := ifn c_7 hf
        refine lv_iload_n hx hb d_BV_pop_85 rfl (lv_at hl 2 rfl) ?_
        refine jpE hf (fun K_9 hK_9 hf9 => ?_)
        replace hf := hf9
        clear hf9
        have hJK_9 : ∀ (y_8 : KBV), KBV.Ok y_8 → K_9 y_8 = R9 → ∀ (H_1 : Heap) (locs_1 : List Loc), (fun w9 => va_P G classes w9 H_1 → va_D A w9 → va_S A s.heap H_1 locs_1 → ∀ (ls : Array Slot), lv_has ls 3 [(0, .ref aBV), (1, .int (iI v_wanted)), (2, .int (iI (zBt.types (zBt.height - 1).toNat)))] → W p l e (headSpec (wx y_BV_pop b_BV_pop 3 (some .int)) { frames := 0, cells := 0, slots := 0, locals := 0 }).room s m ([.ref aBV, .int (iI v_wanted)] : List Value).toArray below meth c H_1 locs_1 0 0 (MX below (XQ G classes A (fun o w1 => ozp R9 (fun x9 => (KBV.Ok x9.1 ∧ KBt.Ok x9.2.1 ∧ R32 x9.2.2) ∧ o = .returned (some (.int (iI x9.2.2))) ∧ w1 = [(aBV, .inr (5, [.ref aWa, .ref aCo, .int (iI x9.1.function), .ref aBV_types, .int (iI x9.2.1.height), .ref aBV_openers, .ref aBV_bases, .ref aBV_blockTypes, .ref aBV_labelTypes, .ref aBV_unreachable, .int (iI zBo.openCount), .int (bI x9.1.failed)])), (aBV_types, .inl (cI, 2000, .inl (fun k9 => iI (x9.2.1.types k9)))), (aBV_bases, .inl (cI, 101, .inl (fun k9 => iI (zBo.bases k9)))), (aBV_unreachable, .inl (cZ, 101, .inl (fun k9 => bI (zBo.unreachable k9))))]) (fun _ => False))) ([.ref aBV, .int (iI v_wanted)] : List Value).toArray s 0 0 A) (F0 m 99 ls [])) [(aBV, .inr (5, [.ref aWa, .ref aCo, .int (iI y_8.function), .ref aBV_types, .int (iI (zBt.height - 1)), .ref aBV_openers, .ref aBV_bases, .ref aBV_blockTypes, .ref aBV_labelTypes, .ref aBV_unreachable, .int (iI zBo.openCount), .int (bI y_8.failed)])), (aBV_types, .inl (cI, 2000, .inl (fun k9 => iI (zBt.types k9)))), (aBV_bases, .inl (cI, 101, .inl (fun k9 => iI (zBo.bases k9)))), (aBV_unreachable, .inl (cZ, 101, .inl (fun k9 => bI (zBo.unreachable k9))))] := by
          intro y_8 hy_8 hf H_3 locs_3 hP_3 hD_3 hS_3 ls hl
          clear hS_1 hD_1 hP_1
          replace hf := (congrFun hK_9 y_8).symm.trans hf
          clear hK_9
          refine lv_iload_n hx hb d_BV_pop_99 rfl (lv_at hl 2 rfl) ?_
          exact ex_W (fun _ h => ex_mq h) (W.iret (v := iI (zBt.types (zBt.height - 1).toNat)) hx hb hr (fun t ht hW => ⟨⟨_, ozr hf ⟨⟨hy_8, (KBt.Ok.mk hzBt.types g_5 : KBt.Ok (KBt.mk zBt.types (zBt.height - 1))), (hzBt.types _)⟩, rfl, rfl⟩, by rw [ht]; exact hP_3, hD_3⟩, hS_3.F ht⟩) hS_3.2.2 d_BV_pop_100)
        clear hK_9
        refine lv_if_eq (tgt := 99) hx hb d_BV_pop_86 (by decide) (fun c_10 => ?_) (fun c_10 => ?_)
        · have c_10 := ((zv_eq (iI_t hv_wanted) zero_v)).mp c_10
          replace hf := ifp c_10 hf
          exact hJK_9 zBV hzBV hf _ _ hP_1 hD_1 hS_1 _ (lv_sub hl [1, 2, 0] rfl)
        · have c_10 := (fun q9 => c_10 (((zv_eq (iI_t hv_wanted) zero_v)).mpr q9))
          replace hf := ifn c_10 hf
          refine lv_iload_n hx hb d_BV_pop_89 rfl (lv_at hl 2 rfl) ?_
          refine lv_iload_n hx hb d_BV_pop_90 rfl (lv_at hl 0 rfl) ?_
          refine lv_icmp_eq (tgt := 99) hx hb d_BV_pop_91 (by decide) (fun c_11 => ?_) (fun c_11 => ?_)
          · have c_11 := ((zv_eq (iI_t hv_wanted) (iI_t (hzBt.types _)))).mp c_11
            replace hf := ifp c_11 hf
            exact hJK_9 zBV hzBV hf _ _ hP_1 hD_1 hS_1 _ (lv_sub hl [1, 2, 0] rfl)
          · have c_11 := (fun q9 => c_11 (((zv_eq (iI_t hv_wanted) (iI_t (hzBt.types _)))).mpr q9))
            replace hf := ifn c_11 hf
            refine lv_aload_n hx hb d_BV_pop_94 rfl (lv_at hl 1 rfl) ?_
            refine lv_iconst (v := iI 1) hx hb d_BV_pop_95 (by decide) ?_
            refine W.eq (g2 := F0 m 96 ls [.int (bI true), .ref aBV]) (by rfl) ?_
            refine va_put (D := G) (ci := 5) (v := .int (bI true)) (ty := .boolean) (C := R_BV) (T := F_BV) (N := 12) hx hb hts i_BV t_BV t_BV_ok n_BV hown hK hP_1 hD_1 hS_1 0 rfl rfl 11 (by decide) (hts _ m_119) (fun _ h9 => h9) rfl (by decide +kernel) (bI_nar _) (bI_fit _) (Nat.le_of_ble_eq_true rfl) d_BV_pop_96 (fun H_4 locs_4 hP_4 hD_4 hS_4 => ?_)
            clear hS_1 hD_1 hP_1
            have hQ9 : (fun w9 => va_P G classes w9 H_4 ∧ va_D A w9) [(aBV, .inr (5, [.ref aWa, .ref aCo, .int (iI zBV.function), .ref aBV_types, .int (iI (zBt.height - 1)), .ref aBV_openers, .ref aBV_bases, .ref aBV_blockTypes, .ref aBV_labelTypes, .ref aBV_unreachable, .int (iI zBo.openCount), .int (bI true)])), (aBV_types, .inl (cI, 2000, .inl (fun k9 => iI (zBt.types k9)))), (aBV_bases, .inl (cI, 101, .inl (fun k9 => iI (zBo.bases k9)))), (aBV_unreachable, .inl (cZ, 101, .inl (fun k9 => bI (zBo.unreachable k9))))] := ⟨hP_4, hD_4⟩
            clear hP_4 hD_4
            obtain ⟨hP_4, hD_4⟩ := hQ9
            exact hJK_9 (KBV.mk zBV.function true) (KBV.Ok.mk hzBV.function : KBV.Ok (KBV.mk zBV.function true)) hf _ _ hP_4 hD_4 hS_4 _ (lv_sub hl [1, 2, 0] rfl)
      · have c_7 := ((zv_eq (iI_t (hzBt.types _)) zero_v)).mp c_7
        replace hf := ifp c_7 hf
        refine lv_iload_n hx hb d_BV_pop_83 rfl (lv_at hl 2 rfl) ?_
        exact ex_W (fun _ h => ex_mq h) (W.iret (v := iI v_wanted) hx hb hr (fun t ht hW => ⟨⟨_, ozr hf ⟨⟨hzBV, (KBt.Ok.mk hzBt.types g_5 : KBt.Ok (KBt.mk zBt.types (zBt.height - 1))), hv_wanted⟩, rfl, rfl⟩, by rw [ht]; exact hP_1, hD_1⟩, hS_1.F ht⟩) hS_1.2.2 d_BV_pop_84)
    · have c_4 := (fun q9 => c_4 (((zv_lt (iI_t (hzBo.bases _)) (iI_t hzBt.height))).mpr q9))
      replace hf := ifn c_4 hf
      refine lv_aload_n hx hb d_BV_pop_27 rfl (lv_at hl 0 rfl) ?_
      refine lv_aload_n hx hb d_BV_pop_28 rfl (lv_at hl 0 rfl) ?_
      refine va_get (D := G) (ci := 5) (v := .int (bI zBV.failed)) (C := R_BV) (T := F_BV) (N := 12) hx hb hts i_BV hown hK hP 0 rfl rfl 11 (by decide) (hts _ m_119) (fun _ h9 => h9) rfl d_BV_pop_29 ?_
      refine jpE hf (fun K_13 hK_13 hf9 => ?_)
      replace hf := hf9
      clear hf9
      have hJK_13 : ∀ (y_12 : Bool), True → K_13 y_12 = R9 → ∀ (H : Heap) (locs : List Loc), (fun w9 => va_P G classes w9 H → va_D A w9 → va_S A s.heap H locs → ∀ (ls : Array Slot), lv_has ls 3 [(0, .ref aBV), (1, .int (iI v_wanted))] → W p l e (headSpec (wx y_BV_pop b_BV_pop 3 (some .int)) { frames := 0, cells := 0, slots := 0, locals := 0 }).room s m ([.ref aBV, .int (iI v_wanted)] : List Value).toArray below meth c H locs 0 0 (MX below (XQ G classes A (fun o w1 => ozp R9 (fun x9 => (KBV.Ok x9.1 ∧ KBt.Ok x9.2.1 ∧ R32 x9.2.2) ∧ o = .returned (some (.int (iI x9.2.2))) ∧ w1 = [(aBV, .inr (5, [.ref aWa, .ref aCo, .int (iI x9.1.function), .ref aBV_types, .int (iI x9.2.1.height), .ref aBV_openers, .ref aBV_bases, .ref aBV_blockTypes, .ref aBV_labelTypes, .ref aBV_unreachable, .int (iI zBo.openCount), .int (bI x9.1.failed)])), (aBV_types, .inl (cI, 2000, .inl (fun k9 => iI (x9.2.1.types k9)))), (aBV_bases, .inl (cI, 101, .inl (fun k9 => iI (zBo.bases k9)))), (aBV_unreachable, .inl (cZ, 101, .inl (fun k9 => bI (zBo.unreachable k9))))]) (fun _ => False))) ([.ref aBV, .int (iI v_wanted)] : List Value).toArray s 0 0 A) (F0 m 54 ls [.int (bI y_12), .ref aBV])) [(aBV, .inr (5, [.ref aWa, .ref aCo, .int (iI zBV.function), .ref aBV_types, .int (iI zBt.height), .ref aBV_openers, .ref aBV_bases, .ref aBV_blockTypes, .ref aBV_labelTypes, .ref aBV_unreachable, .int (iI zBo.openCount), .int (bI zBV.failed)])), (aBV_types, .inl (cI, 2000, .inl (fun k9 => iI (zBt.types k9)))), (aBV_bases, .inl (cI, 101, .inl (fun k9 => iI (zBo.bases k9)))), (aBV_unreachable, .inl (cZ, 101, .inl (fun k9 => bI (zBo.unreachable k9))))] := by
        intro y_12 hy_12 hf H_6 locs_6 hP_6 hD_6 hS_6 ls hl
        clear hS hD hP
        replace hf := (congrFun hK_13 y_12).symm.trans hf
        clear hK_13
        refine va_put (D := G) (ci := 5) (v := .int (bI y_12)) (ty := .boolean) (C := R_BV) (T := F_BV) (N := 12) hx hb hts i_BV t_BV t_BV_ok n_BV hown hK hP_6 hD_6 hS_6 0 rfl rfl 11 (by decide) (hts _ m_119) (fun _ h9 => h9) rfl (by decide +kernel) (bI_nar _) (bI_fit _) (Nat.le_of_ble_eq_true rfl) d_BV_pop_54 (fun H_7 locs_7 hP_7 hD_7 hS_7 => ?_)
        clear hS_6 hD_6 hP_6
        have hQ9 : (fun w9 => va_P G classes w9 H_7 ∧ va_D A w9) [(aBV, .inr (5, [.ref aWa, .ref aCo, .int (iI zBV.function), .ref aBV_types, .int (iI zBt.height), .ref aBV_openers, .ref aBV_bases, .ref aBV_blockTypes, .ref aBV_labelTypes, .ref aBV_unreachable, .int (iI zBo.openCount), .int (bI y_12)])), (aBV_types, .inl (cI, 2000, .inl (fun k9 => iI (zBt.types k9)))), (aBV_bases, .inl (cI, 101, .inl (fun k9 => iI (zBo.bases k9)))), (aBV_unreachable, .inl (cZ, 101, .inl (fun k9 => bI (zBo.unreachable k9))))] := ⟨hP_7, hD_7⟩
        clear hP_7 hD_7
        obtain ⟨hP_7, hD_7⟩ := hQ9
        refine lv_iload_n hx hb d_BV_pop_57 rfl (lv_at hl 1 rfl) ?_
        exact ex_W (fun _ h => ex_mq h) (W.iret (v := iI v_wanted) hx hb hr (fun t ht hW => ⟨⟨_, ozr hf ⟨⟨(KBV.Ok.mk hzBV.function : KBV.Ok (KBV.mk zBV.function y_12)), hzBt, hv_wanted⟩, rfl, rfl⟩, by rw [ht]; exact hP_7, hD_7⟩, hS_7.F ht⟩) hS_7.2.2 d_BV_pop_58)
      clear hK_13
      refine jpE hf (fun K_15 hK_15 hf9 => ?_)
      replace hf := hf9
      clear hf9
      have hJK_15 : ∀ (y_14 : Unit), True → K_15 y_14 = R9 → ∀ (H : Heap) (locs : List Loc), (fun w9 => va_P G classes w9 H → va_D A w9 → va_S A s.heap H locs → ∀ (ls : Array Slot), lv_has ls 3 [(0, .ref aBV), (1, .int (iI v_wanted))] → W p l e (headSpec (wx y_BV_pop b_BV_pop 3 (some .int)) { frames := 0, cells := 0, slots := 0, locals := 0 }).room s m ([.ref aBV, .int (iI v_wanted)] : List Value).toArray below meth c H locs 0 0 (MX below (XQ G classes A (fun o w1 => ozp R9 (fun x9 => (KBV.Ok x9.1 ∧ KBt.Ok x9.2.1 ∧ R32 x9.2.2) ∧ o = .returned (some (.int (iI x9.2.2))) ∧ w1 = [(aBV, .inr (5, [.ref aWa, .ref aCo, .int (iI x9.1.function), .ref aBV_types, .int (iI x9.2.1.height), .ref aBV_openers, .ref aBV_bases, .ref aBV_blockTypes, .ref aBV_labelTypes, .ref aBV_unreachable, .int (iI zBo.openCount), .int (bI x9.1.failed)])), (aBV_types, .inl (cI, 2000, .inl (fun k9 => iI (x9.2.1.types k9)))), (aBV_bases, .inl (cI, 101, .inl (fun k9 => iI (zBo.bases k9)))), (aBV_unreachable, .inl (cZ, 101, .inl (fun k9 => bI (zBo.unreachable k9))))]) (fun _ => False))) ([.ref aBV, .int (iI v_wanted)] : List Value).toArray s 0 0 A) (F0 m 49 ls [.ref aBV])) [(aBV, .inr (5, [.ref aWa, .ref aCo, .int (iI zBV.function), .ref aBV_types, .int (iI zBt.height), .ref aBV_openers, .ref aBV_bases, .ref aBV_blockTypes, .ref aBV_labelTypes, .ref aBV_unreachable, .int (iI zBo.openCount), .int (bI zBV.failed)])), (aBV_types, .inl (cI, 2000, .inl (fun k9 => iI (zBt.types k9)))), (aBV_bases, .inl (cI, 101, .inl (fun k9 => iI (zBo.bases k9)))), (aBV_unreachable, .inl (cZ, 101, .inl (fun k9 => bI (zBo.unreachable k9))))] := by
        intro y_14 hy_14 hf H_8 locs_8 hP_8 hD_8 hS_8 ls hl
        clear hS hD hP
        replace hf := (congrFun hK_15 y_14).symm.trans hf
        clear hK_15
        refine lv_iconst (v := iI 1) hx hb d_BV_pop_49 (by decide) ?_
        refine lv_goto (tgt := 54) hx hb d_BV_pop_50 (by decide) ?_
        refine W.eq (g2 := F0 m 54 ls [.int (bI true), .ref aBV]) (by rfl) ?_
        exact hJK_13 true trivial hf _ _ hP_8 hD_8 hS_8 _ (lv_sub hl [0, 1] rfl)
      clear hK_15
      refine lv_if_ne (tgt := 49) hx hb d_BV_pop_32 (by decide) (fun c_16 => ?_) (fun c_16 => ?_)
      · have c_16 := (zb_t c_16)
        replace hf := ifp c_16 hf
        exact hJK_15 () trivial hf _ _ hP hD hS _ (lv_sub hl [0, 1] rfl)
      · have c_16 := (zb_f c_16)
        replace hf := ifn c_16 hf
        refine lv_aload_n hx hb d_BV_pop_35 rfl (lv_at hl 0 rfl) ?_
        refine va_get (D := G) (ci := 5) (v := .ref aBV_unreachable) (C := R_BV) (T := F_BV) (N := 12) hx hb hts i_BV hown hK hP 0 rfl rfl 9 (by decide) (hts _ m_117) (fun _ h9 => h9) rfl d_BV_pop_36 ?_
        refine lv_aload_n hx hb d_BV_pop_39 rfl (lv_at hl 0 rfl) ?_
        refine va_get (D := G) (ci := 5) (v := .int (iI zBo.openCount)) (C := R_BV) (T := F_BV) (N := 12) hx hb hts i_BV hown hK hP 0 rfl rfl 10 (by decide) (hts _ m_118) (fun _ h9 => h9) rfl d_BV_pop_40 ?_
        refine lv_iconst (v := iI 1) hx hb d_BV_pop_43 (by decide) ?_
        refine lv_isub hx hb d_BV_pop_44 ?_
        refine lv_topi (fun x9 e9 => ?_)
        obtain rfl : x9 = iI (zBo.openCount - 1) := e9.trans (iI_sub _ _)
        replace hf := grd hnb hf
        obtain ⟨g_17, hf⟩ := hf
        replace hf := grd hnb hf
        obtain ⟨g_18, hf⟩ := hf
        refine va_zald hx hb hK hP 3 3 rfl rfl (vp_in_iI g_17 g_18) d_BV_pop_45 ?_
        refine W.eq (g2 := F0 m 46 ls [.int (bI (zBo.unreachable (zBo.openCount - 1).toNat)), .ref aBV]) (by rw [iI_clamp g_17] <;> rfl) ?_
        refine lv_if_ne (tgt := 53) hx hb d_BV_pop_46 (by decide) (fun c_19 => ?_) (fun c_19 => ?_)
        · have c_19 := (zb_t c_19)
          replace hf := ifp c_19 hf
          refine lv_iconst (v := iI 0) hx hb d_BV_pop_53 (by decide) ?_
          refine W.eq (g2 := F0 m 54 ls [.int (bI false), .ref aBV]) (by rfl) ?_
          exact hJK_13 false trivial hf _ _ hP hD hS _ (lv_sub hl [0, 1] rfl)
        · have c_19 := (zb_f c_19)
          replace hf := ifn c_19 hf
          exact hJK_15 () trivial hf _ _ hP hD hS _ (lv_sub hl [0, 1] rfl)
  · have c_1 := ((zv_eq (iI_t hv_wanted) (iI_t (show R32 (64) by decide)))).mp c_1
    replace hf := ifp c_1 hf
    refine lv_bipush (v := iI 64) hx hb d_BV_pop_6 (by decide) ?_
    exact ex_W (fun _ h => ex_mq h) (W.iret (v := iI 64) hx hb hr (fun t ht hW => ⟨⟨_, ozr hf ⟨⟨hzBV, hzBt, (show R32 (64) by decide)⟩, rfl, rfl⟩, by rw [ht]; exact hP, hD⟩, hS.F ht⟩) hS.2.2 d_BV_pop_8)
set_option maxHeartbeats 8000000 in
set_option maxRecDepth 100000 in
theorem k_BV_becomeUnreachable (l : Launch) (htr : l.stackTraces = false) (G : va_G) (cB cI cJ cZ cG : ClassId) (aBV : Nat) (aWa : Nat) (aCo : Nat) (aBV_types : Nat) (aBV_openers : Nat) (aBV_bases : Nat) (aBV_blockTypes : Nat) (aBV_labelTypes : Nat) (aBV_unreachable : Nat) (zBV : KBV) (zBt : KBt) (zBo : KBo) (hzBV : KBV.Ok zBV) (hzBt : KBt.Ok zBt) (hzBo : KBo.Ok zBo) (R9 : Out Empty (KBt × KBo)) (hf : f_BV_becomeUnreachable zBt zBo = R9) (hnb : R9 ≠ .bad) (sz : Nat) : MetX l y_BV_becomeUnreachable (wx y_BV_becomeUnreachable b_BV_becomeUnreachable 1 none) { frames := 0, cells := 0, slots := 0, locals := 0 } (XP G classes (xtys cB cI cJ cZ cG) xE [.ref aBV] [(aBV, .inr (5, [.ref aWa, .ref aCo, .int (iI zBV.function), .ref aBV_types, .int (iI zBt.height), .ref aBV_openers, .ref aBV_bases, .ref aBV_blockTypes, .ref aBV_labelTypes, .ref aBV_unreachable, .int (iI zBo.openCount), .int (bI zBV.failed)])), (aBV_types, .inl (cI, 2000, .inl (fun k9 => iI (zBt.types k9)))), (aBV_openers, .inl (cI, 101, .inl (fun k9 => iI (zBo.openers k9)))), (aBV_bases, .inl (cI, 101, .inl (fun k9 => iI (zBo.bases k9)))), (aBV_blockTypes, .inl (cI, 101, .inl (fun k9 => iI (zBo.blockTypes k9)))), (aBV_labelTypes, .inl (cI, 101, .inl (fun k9 => iI (zBo.labelTypes k9)))), (aBV_unreachable, .inl (cZ, 101, .inl (fun k9 => bI (zBo.unreachable k9))))] sz) (XQ G classes (va_A [(aBV, .inr (5, [.ref aWa, .ref aCo, .int (iI zBV.function), .ref aBV_types, .int (iI zBt.height), .ref aBV_openers, .ref aBV_bases, .ref aBV_blockTypes, .ref aBV_labelTypes, .ref aBV_unreachable, .int (iI zBo.openCount), .int (bI zBV.failed)])), (aBV_types, .inl (cI, 2000, .inl (fun k9 => iI (zBt.types k9)))), (aBV_openers, .inl (cI, 101, .inl (fun k9 => iI (zBo.openers k9)))), (aBV_bases, .inl (cI, 101, .inl (fun k9 => iI (zBo.bases k9)))), (aBV_blockTypes, .inl (cI, 101, .inl (fun k9 => iI (zBo.blockTypes k9)))), (aBV_labelTypes, .inl (cI, 101, .inl (fun k9 => iI (zBo.labelTypes k9)))), (aBV_unreachable, .inl (cZ, 101, .inl (fun k9 => bI (zBo.unreachable k9))))] sz) (fun o w1 => ozp R9 (fun x9 => (KBt.Ok x9.1 ∧ KBo.Ok x9.2) ∧ o = .returned none ∧ w1 = [(aBV, .inr (5, [.ref aWa, .ref aCo, .int (iI zBV.function), .ref aBV_types, .int (iI x9.1.height), .ref aBV_openers, .ref aBV_bases, .ref aBV_blockTypes, .ref aBV_labelTypes, .ref aBV_unreachable, .int (iI x9.2.openCount), .int (bI zBV.failed)])), (aBV_types, .inl (cI, 2000, .inl (fun k9 => iI (x9.1.types k9)))), (aBV_openers, .inl (cI, 101, .inl (fun k9 => iI (x9.2.openers k9)))), (aBV_bases, .inl (cI, 101, .inl (fun k9 => iI (x9.2.bases k9)))), (aBV_blockTypes, .inl (cI, 101, .inl (fun k9 => iI (x9.2.blockTypes k9)))), (aBV_labelTypes, .inl (cI, 101, .inl (fun k9 => iI (x9.2.labelTypes k9)))), (aBV_unreachable, .inl (cZ, 101, .inl (fun k9 => bI (x9.2.unreachable k9))))]) (fun _ => False))) 0 0 (va_A [(aBV, .inr (5, [.ref aWa, .ref aCo, .int (iI zBV.function), .ref aBV_types, .int (iI zBt.height), .ref aBV_openers, .ref aBV_bases, .ref aBV_blockTypes, .ref aBV_labelTypes, .ref aBV_unreachable, .int (iI zBo.openCount), .int (bI zBV.failed)])), (aBV_types, .inl (cI, 2000, .inl (fun k9 => iI (zBt.types k9)))), (aBV_openers, .inl (cI, 101, .inl (fun k9 => iI (zBo.openers k9)))), (aBV_bases, .inl (cI, 101, .inl (fun k9 => iI (zBo.bases k9)))), (aBV_blockTypes, .inl (cI, 101, .inl (fun k9 => iI (zBo.blockTypes k9)))), (aBV_labelTypes, .inl (cI, 101, .inl (fun k9 => iI (zBo.labelTypes k9)))), (aBV_unreachable, .inl (cZ, 101, .inl (fun k9 => bI (zBo.unreachable k9))))] sz) := by
  refine ex_ofW (cc := b_BV_becomeUnreachable) (maxL := 1) (ret := none) (by decide) rfl ?_
  intro p e s m args below meth c s₁ B hml hno hv
  obtain ⟨rfl, hsz, hP, hK, hD0, hE⟩ := hv
  have hx := B.exec
  have hb := B.bytes
  have hr := B.returns
  have hts : ∀ w ∈ lw_good, w.before _ s = true := fun w h => atoms_spec (ws := wx y_BV_becomeUnreachable b_BV_becomeUnreachable 1 none) B.pre w (List.mem_cons_of_mem _ h)
  have hown : s.vm.findClass R_BV = some m.cls := findClass_of_methodNamed B.named
  have hlocks := B.notSynchronized
  subst hsz
  have hNS := xx_nostat hP
  have hD := hD0.self (sz := s.heap.size)
  generalize hAe : va_A [(aBV, .inr (5, [.ref aWa, .ref aCo, .int (iI zBV.function), .ref aBV_types, .int (iI zBt.height), .ref aBV_openers, .ref aBV_bases, .ref aBV_blockTypes, .ref aBV_labelTypes, .ref aBV_unreachable, .int (iI zBo.openCount), .int (bI zBV.failed)])), (aBV_types, .inl (cI, 2000, .inl (fun k9 => iI (zBt.types k9)))), (aBV_openers, .inl (cI, 101, .inl (fun k9 => iI (zBo.openers k9)))), (aBV_bases, .inl (cI, 101, .inl (fun k9 => iI (zBo.bases k9)))), (aBV_blockTypes, .inl (cI, 101, .inl (fun k9 => iI (zBo.blockTypes k9)))), (aBV_labelTypes, .inl (cI, 101, .inl (fun k9 => iI (zBo.labelTypes k9)))), (aBV_unreachable, .inl (cZ, 101, .inl (fun k9 => bI (zBo.unreachable k9))))] s.heap.size = A at hD hE hNS ⊢
  have hA : ∀ q : Nat, s.heap.size ≤ q → A q := fun q h => by rw [← hAe]; exact Or.inr h
  have hS : va_S A s.heap s.heap [] := va_S.rf
  have hl := lv_entry ([.ref aBV]) (n := 1) (Nat.le_of_ble_eq_true rfl)
  rw [lg_entry_eq]
  generalize (lg_sl ([.ref aBV]) ++ List.replicate (1 - (lg_sl ([.ref aBV])).length) Slot.unset).toArray = ls at hl ⊢
  have hl : lv_has ls 1 [(0, .ref aBV)] := hl
  unfold f_BV_becomeUnreachable at hf
  refine lv_aload_n hx hb d_BV_becomeUnreachable_0 rfl (lv_at hl 0 rfl) ?_
  refine lv_aload_n hx hb d_BV_becomeUnreachable_1 rfl (lv_at hl 0 rfl) ?_
  refine va_get (D := G) (ci := 5) (v := .ref aBV_bases) (C := R_BV) (T := F_BV) (N := 12) hx hb hts i_BV hown hK hP 0 rfl rfl 6 (by decide) (hts _ m_114) (fun _ h9 => h9) rfl d_BV_becomeUnreachable_2 ?_
  refine lv_aload_n hx hb d_BV_becomeUnreachable_5 rfl (lv_at hl 0 rfl) ?_
  refine va_get (D := G) (ci := 5) (v := .int (iI zBo.openCount)) (C := R_BV) (T := F_BV) (N := 12) hx hb hts i_BV hown hK hP 0 rfl rfl 10 (by decide) (hts _ m_118) (fun _ h9 => h9) rfl d_BV_becomeUnreachable_6 ?_
  refine lv_iconst (v := iI 1) hx hb d_BV_becomeUnreachable_9 (by decide) ?_
  refine lv_isub hx hb d_BV_becomeUnreachable_10 ?_
  refine lv_topi (fun x9 e9 => ?_)
  obtain rfl : x9 = iI (zBo.openCount - 1) := e9.trans (iI_sub _ _)
  replace hf := grd hnb hf
  obtain ⟨g_1, hf⟩ := hf
  replace hf := grd hnb hf
  obtain ⟨g_2, hf⟩ := hf
  refine va_iald hx hb hK hP 3 1 rfl rfl (vp_in_iI g_1 g_2) d_BV_becomeUnreachable_11 ?_
  refine W.eq (g2 := F0 m 12 ls [.int (iI (zBo.bases (zBo.openCount - 1).toNat)), .ref aBV]) (by rw [iI_clamp g_1] <;> rfl) ?_
  refine va_put (D := G) (ci := 5) (v := .int (iI (zBo.bases (zBo.openCount - 1).toNat))) (ty := .int) (C := R_BV) (T := F_BV) (N := 12) hx hb hts i_BV t_BV t_BV_ok n_BV hown hK hP hD hS 0 rfl rfl 4 (by decide) (hts _ m_112) (fun _ h9 => h9) rfl (by decide +kernel) rfl rfl (Nat.le_of_ble_eq_true rfl) d_BV_becomeUnreachable_12 (fun H_1 locs_1 hP_1 hD_1 hS_1 => ?_)
  clear hS hD hP
  have hQ9 : (fun w9 => va_P G classes w9 H_1 ∧ va_D A w9) [(aBV, .inr (5, [.ref aWa, .ref aCo, .int (iI zBV.function), .ref aBV_types, .int (iI (zBo.bases (zBo.openCount - 1).toNat)), .ref aBV_openers, .ref aBV_bases, .ref aBV_blockTypes, .ref aBV_labelTypes, .ref aBV_unreachable, .int (iI zBo.openCount), .int (bI zBV.failed)])), (aBV_types, .inl (cI, 2000, .inl (fun k9 => iI (zBt.types k9)))), (aBV_openers, .inl (cI, 101, .inl (fun k9 => iI (zBo.openers k9)))), (aBV_bases, .inl (cI, 101, .inl (fun k9 => iI (zBo.bases k9)))), (aBV_blockTypes, .inl (cI, 101, .inl (fun k9 => iI (zBo.blockTypes k9)))), (aBV_labelTypes, .inl (cI, 101, .inl (fun k9 => iI (zBo.labelTypes k9)))), (aBV_unreachable, .inl (cZ, 101, .inl (fun k9 => bI (zBo.unreachable k9))))] := ⟨hP_1, hD_1⟩
  clear hP_1 hD_1
  obtain ⟨hP_1, hD_1⟩ := hQ9
  refine lv_aload_n hx hb d_BV_becomeUnreachable_15 rfl (lv_at hl 0 rfl) ?_
  refine va_get (D := G) (ci := 5) (v := .ref aBV_unreachable) (C := R_BV) (T := F_BV) (N := 12) hx hb hts i_BV hown hK hP_1 0 rfl rfl 9 (by decide) (hts _ m_117) (fun _ h9 => h9) rfl d_BV_becomeUnreachable_16 ?_
  refine lv_aload_n hx hb d_BV_becomeUnreachable_19 rfl (lv_at hl 0 rfl) ?_
  refine va_get (D := G) (ci := 5) (v := .int (iI zBo.openCount)) (C := R_BV) (T := F_BV) (N := 12) hx hb hts i_BV hown hK hP_1 0 rfl rfl 10 (by decide) (hts _ m_118) (fun _ h9 => h9) rfl d_BV_becomeUnreachable_20 ?_
  refine lv_iconst (v := iI 1) hx hb d_BV_becomeUnreachable_23 (by decide) ?_
  refine lv_isub hx hb d_BV_becomeUnreachable_24 ?_
  refine lv_topi (fun x9 e9 => ?_)
  obtain rfl : x9 = iI (zBo.openCount - 1) := e9.trans (iI_sub _ _)
  replace hf := grd hnb hf
  obtain ⟨g_3, hf⟩ := hf
  refine lv_iconst (v := iI 1) hx hb d_BV_becomeUnreachable_25 (by decide) ?_
  refine W.eq (g2 := F0 m 26 ls [.int (bI true), .int (iI (zBo.openCount - 1)), .ref aBV_unreachable]) (by rfl) ?_
  replace hf := grd hnb hf
  obtain ⟨g_4, hf⟩ := hf
  refine va_zast hx hb hK hP_1 hD_1 hS_1 6 3 rfl rfl (vp_in_iI g_3 g_4) d_BV_becomeUnreachable_26 (fun H_2 locs_2 hP_2 hD_2 hS_2 => ?_)
  clear hS_1 hD_1 hP_1
  rw [iI_clamp g_3, nar_bI, upd_bI] at hP_2 hD_2
  have hQ9 : (fun w9 => va_P G classes w9 H_2 ∧ va_D A w9) [(aBV, .inr (5, [.ref aWa, .ref aCo, .int (iI zBV.function), .ref aBV_types, .int (iI (zBo.bases (zBo.openCount - 1).toNat)), .ref aBV_openers, .ref aBV_bases, .ref aBV_blockTypes, .ref aBV_labelTypes, .ref aBV_unreachable, .int (iI zBo.openCount), .int (bI zBV.failed)])), (aBV_types, .inl (cI, 2000, .inl (fun k9 => iI (zBt.types k9)))), (aBV_openers, .inl (cI, 101, .inl (fun k9 => iI (zBo.openers k9)))), (aBV_bases, .inl (cI, 101, .inl (fun k9 => iI (zBo.bases k9)))), (aBV_blockTypes, .inl (cI, 101, .inl (fun k9 => iI (zBo.blockTypes k9)))), (aBV_labelTypes, .inl (cI, 101, .inl (fun k9 => iI (zBo.labelTypes k9)))), (aBV_unreachable, .inl (cZ, 101, .inl (fun k9 => bI ((updB zBo.unreachable (zBo.openCount - 1).toNat true) k9))))] := ⟨hP_2, hD_2⟩
  clear hP_2 hD_2
  obtain ⟨hP_2, hD_2⟩ := hQ9
  exact ex_W (fun _ h => ex_mq h) (W.vret hx hb hr (fun t ht hW => ⟨⟨_, ozr hf ⟨⟨(KBt.Ok.mk hzBt.types (hzBo.bases _) : KBt.Ok (KBt.mk zBt.types (zBo.bases (zBo.openCount - 1).toNat))), (KBo.Ok.mk hzBo.openers hzBo.bases hzBo.blockTypes hzBo.labelTypes hzBo.openCount : KBo.Ok (KBo.mk zBo.openers zBo.bases zBo.blockTypes zBo.labelTypes (updB zBo.unreachable (zBo.openCount - 1).toNat true) zBo.openCount))⟩, rfl, rfl⟩, by rw [ht]; exact hP_2, hD_2⟩, hS_2.F ht⟩) hS_2.2.2 d_BV_becomeUnreachable_27)
set_option maxHeartbeats 8000000 in
set_option maxRecDepth 100000 in
theorem k_BV_checkElse (l : Launch) (htr : l.stackTraces = false) (G : va_G) (cB cI cJ cZ cG : ClassId) (aBV : Nat) (aWa : Nat) (aCo : Nat) (aBV_types : Nat) (aBV_openers : Nat) (aBV_bases : Nat) (aBV_blockTypes : Nat) (aBV_labelTypes : Nat) (aBV_unreachable : Nat) (zBV : KBV) (zBt : KBt) (zBo : KBo) (hzBV : KBV.Ok zBV) (hzBt : KBt.Ok zBt) (hzBo : KBo.Ok zBo) (R9 : Out Empty (KBV × KBt × KBo)) (hf : f_BV_checkElse zBV zBt zBo = R9) (hnb : R9 ≠ .bad) (sz : Nat) : MetX l y_BV_checkElse (wx y_BV_checkElse b_BV_checkElse 2 none) { frames := 1, cells := 0, slots := 0, locals := 22 } (XP G classes (xtys cB cI cJ cZ cG) xE [.ref aBV] [(aBV, .inr (5, [.ref aWa, .ref aCo, .int (iI zBV.function), .ref aBV_types, .int (iI zBt.height), .ref aBV_openers, .ref aBV_bases, .ref aBV_blockTypes, .ref aBV_labelTypes, .ref aBV_unreachable, .int (iI zBo.openCount), .int (bI zBV.failed)])), (aBV_types, .inl (cI, 2000, .inl (fun k9 => iI (zBt.types k9)))), (aBV_openers, .inl (cI, 101, .inl (fun k9 => iI (zBo.openers k9)))), (aBV_bases, .inl (cI, 101, .inl (fun k9 => iI (zBo.bases k9)))), (aBV_blockTypes, .inl (cI, 101, .inl (fun k9 => iI (zBo.blockTypes k9)))), (aBV_labelTypes, .inl (cI, 101, .inl (fun k9 => iI (zBo.labelTypes k9)))), (aBV_unreachable, .inl (cZ, 101, .inl (fun k9 => bI (zBo.unreachable k9))))] sz) (XQ G classes (va_A [(aBV, .inr (5, [.ref aWa, .ref aCo, .int (iI zBV.function), .ref aBV_types, .int (iI zBt.height), .ref aBV_openers, .ref aBV_bases, .ref aBV_blockTypes, .ref aBV_labelTypes, .ref aBV_unreachable, .int (iI zBo.openCount), .int (bI zBV.failed)])), (aBV_types, .inl (cI, 2000, .inl (fun k9 => iI (zBt.types k9)))), (aBV_openers, .inl (cI, 101, .inl (fun k9 => iI (zBo.openers k9)))), (aBV_bases, .inl (cI, 101, .inl (fun k9 => iI (zBo.bases k9)))), (aBV_blockTypes, .inl (cI, 101, .inl (fun k9 => iI (zBo.blockTypes k9)))), (aBV_labelTypes, .inl (cI, 101, .inl (fun k9 => iI (zBo.labelTypes k9)))), (aBV_unreachable, .inl (cZ, 101, .inl (fun k9 => bI (zBo.unreachable k9))))] sz) (fun o w1 => ozp R9 (fun x9 => (KBV.Ok x9.1 ∧ KBt.Ok x9.2.1 ∧ KBo.Ok x9.2.2) ∧ o = .returned none ∧ w1 = [(aBV, .inr (5, [.ref aWa, .ref aCo, .int (iI x9.1.function), .ref aBV_types, .int (iI x9.2.1.height), .ref aBV_openers, .ref aBV_bases, .ref aBV_blockTypes, .ref aBV_labelTypes, .ref aBV_unreachable, .int (iI x9.2.2.openCount), .int (bI x9.1.failed)])), (aBV_types, .inl (cI, 2000, .inl (fun k9 => iI (x9.2.1.types k9)))), (aBV_openers, .inl (cI, 101, .inl (fun k9 => iI (x9.2.2.openers k9)))), (aBV_bases, .inl (cI, 101, .inl (fun k9 => iI (x9.2.2.bases k9)))), (aBV_blockTypes, .inl (cI, 101, .inl (fun k9 => iI (x9.2.2.blockTypes k9)))), (aBV_labelTypes, .inl (cI, 101, .inl (fun k9 => iI (x9.2.2.labelTypes k9)))), (aBV_unreachable, .inl (cZ, 101, .inl (fun k9 => bI (x9.2.2.unreachable k9))))]) (fun _ => False))) 0 0 (va_A [(aBV, .inr (5, [.ref aWa, .ref aCo, .int (iI zBV.function), .ref aBV_types, .int (iI zBt.height), .ref aBV_openers, .ref aBV_bases, .ref aBV_blockTypes, .ref aBV_labelTypes, .ref aBV_unreachable, .int (iI zBo.openCount), .int (bI zBV.failed)])), (aBV_types, .inl (cI, 2000, .inl (fun k9 => iI (zBt.types k9)))), (aBV_openers, .inl (cI, 101, .inl (fun k9 => iI (zBo.openers k9)))), (aBV_bases, .inl (cI, 101, .inl (fun k9 => iI (zBo.bases k9)))), (aBV_blockTypes, .inl (cI, 101, .inl (fun k9 => iI (zBo.blockTypes k9)))), (aBV_labelTypes, .inl (cI, 101, .inl (fun k9 => iI (zBo.labelTypes k9)))), (aBV_unreachable, .inl (cZ, 101, .inl (fun k9 => bI (zBo.unreachable k9))))] sz) := by
  refine ex_ofW (cc := b_BV_checkElse) (maxL := 2) (ret := none) (by decide) rfl ?_
  intro p e s m args below meth c s₁ B hml hno hv
  obtain ⟨rfl, hsz, hP, hK, hD0, hE⟩ := hv
  have hx := B.exec
  have hb := B.bytes
  have hr := B.returns
  have hts : ∀ w ∈ lw_good, w.before _ s = true := fun w h => atoms_spec (ws := wx y_BV_checkElse b_BV_checkElse 2 none) B.pre w (List.mem_cons_of_mem _ h)
  have hown : s.vm.findClass R_BV = some m.cls := findClass_of_methodNamed B.named
  have hlocks := B.notSynchronized
  subst hsz
  have hNS := xx_nostat hP
  have hD := hD0.self (sz := s.heap.size)
  generalize hAe : va_A [(aBV, .inr (5, [.ref aWa, .ref aCo, .int (iI zBV.function), .ref aBV_types, .int (iI zBt.height), .ref aBV_openers, .ref aBV_bases, .ref aBV_blockTypes, .ref aBV_labelTypes, .ref aBV_unreachable, .int (iI zBo.openCount), .int (bI zBV.failed)])), (aBV_types, .inl (cI, 2000, .inl (fun k9 => iI (zBt.types k9)))), (aBV_openers, .inl (cI, 101, .inl (fun k9 => iI (zBo.openers k9)))), (aBV_bases, .inl (cI, 101, .inl (fun k9 => iI (zBo.bases k9)))), (aBV_blockTypes, .inl (cI, 101, .inl (fun k9 => iI (zBo.blockTypes k9)))), (aBV_labelTypes, .inl (cI, 101, .inl (fun k9 => iI (zBo.labelTypes k9)))), (aBV_unreachable, .inl (cZ, 101, .inl (fun k9 => bI (zBo.unreachable k9))))] s.heap.size = A at hD hE hNS ⊢
  have hA : ∀ q : Nat, s.heap.size ≤ q → A q := fun q h => by rw [← hAe]; exact Or.inr h
  have hS : va_S A s.heap s.heap [] := va_S.rf
  have hl := lv_entry ([.ref aBV]) (n := 2) (Nat.le_of_ble_eq_true rfl)
  rw [lg_entry_eq]
  generalize (lg_sl ([.ref aBV]) ++ List.replicate (2 - (lg_sl ([.ref aBV])).length) Slot.unset).toArray = ls at hl ⊢
  have hl : lv_has ls 2 [(0, .ref aBV)] := hl
  unfold f_BV_checkElse at hf
  refine lv_aload_n hx hb d_BV_checkElse_0 rfl (lv_at hl 0 rfl) ?_
  refine va_get (D := G) (ci := 5) (v := .int (iI zBo.openCount)) (C := R_BV) (T := F_BV) (N := 12) hx hb hts i_BV hown hK hP 0 rfl rfl 10 (by decide) (hts _ m_118) (fun _ h9 => h9) rfl d_BV_checkElse_1 ?_
  refine lv_iconst (v := iI 1) hx hb d_BV_checkElse_4 (by decide) ?_
  refine lv_isub hx hb d_BV_checkElse_5 ?_
  refine lv_topi (fun x9 e9 => ?_)
  obtain rfl : x9 = iI (zBo.openCount - 1) := e9.trans (iI_sub _ _)
  replace hf := grd hnb hf
  obtain ⟨g_1, hf⟩ := hf
  refine lv_istore_n (lv' := [(1, .int (iI (zBo.openCount - 1))), (0, .ref aBV)]) hx hb d_BV_checkElse_6 rfl hl (by decide) rfl (fun ls hl => ?_)
  refine lv_aload_n hx hb d_BV_checkElse_7 rfl (lv_at hl 1 rfl) ?_
  refine lv_aload_n hx hb d_BV_checkElse_8 rfl (lv_at hl 1 rfl) ?_
  refine va_get (D := G) (ci := 5) (v := .ref aBV_blockTypes) (C := R_BV) (T := F_BV) (N := 12) hx hb hts i_BV hown hK hP 0 rfl rfl 7 (by decide) (hts _ m_115) (fun _ h9 => h9) rfl d_BV_checkElse_9 ?_
  refine lv_iload_n hx hb d_BV_checkElse_12 rfl (lv_at hl 0 rfl) ?_
  replace hf := grd hnb hf
  obtain ⟨g_2, hf⟩ := hf
  refine va_iald hx hb hK hP 4 1 rfl rfl (vp_in_iI g_1 g_2) d_BV_checkElse_13 ?_
  refine W.eq (g2 := F0 m 14 ls [.int (iI (zBo.blockTypes (zBo.openCount - 1).toNat)), .ref aBV]) (by rw [iI_clamp g_1] <;> rfl) ?_
  replace hf := obE hnb hf
  obtain ⟨x_3, e_4, hf⟩ := hf
  refine xx_callV (wc := [(aBV, .inr (5, [.ref aWa, .ref aCo, .int (iI zBV.function), .ref aBV_types, .int (iI zBt.height), .ref aBV_openers, .ref aBV_bases, .ref aBV_blockTypes, .ref aBV_labelTypes, .ref aBV_unreachable, .int (iI zBo.openCount), .int (bI zBV.failed)])), (aBV_types, .inl (cI, 2000, .inl (fun k9 => iI (zBt.types k9)))), (aBV_bases, .inl (cI, 101, .inl (fun k9 => iI (zBo.bases k9)))), (aBV_unreachable, .inl (cZ, 101, .inl (fun k9 => bI (zBo.unreachable k9))))]) (wr := [(aBV_openers, .inl (cI, 101, .inl (fun k9 => iI (zBo.openers k9)))), (aBV_blockTypes, .inl (cI, 101, .inl (fun k9 => iI (zBo.blockTypes k9)))), (aBV_labelTypes, .inl (cI, 101, .inl (fun k9 => iI (zBo.labelTypes k9))))]) (As := [.int (iI (zBo.blockTypes (zBo.openCount - 1).toNat))]) (rest := []) ⟨hx, hb, hml, hown, hts⟩ xE_st hK hE hA (k_BV_pop l htr G cB cI cJ cZ cG aBV aWa aCo aBV_types aBV_openers aBV_bases aBV_blockTypes aBV_labelTypes aBV_unreachable zBV zBt zBo hzBV hzBt hzBo (zBo.blockTypes (zBo.openCount - 1).toNat) (hzBo.blockTypes _) (.ret x_3) e_4 ret_nb _) (xw_V 1 hts m_804 m_806 ms_BV_pop m_6 m_807 (by decide +kernel) ⟨(Nat.le_of_ble_eq_true rfl), (Nat.le_of_ble_eq_true rfl)⟩) hP hD hS [0, 1, 3, 6] [2, 4, 5] rfl rfl (by decide +kernel) (by decide +kernel) (by decide +kernel) 0 5 rfl rfl rfl rfl hl.1 rfl (Nat.le_of_ble_eq_true rfl) d_BV_checkElse_14 ⟨(Nat.le_of_ble_eq_true rfl), (Nat.le_of_ble_eq_true rfl)⟩ (fun v9 w9 H_1 locs_1 hp hP_1 hD_1 hS_1 => ?_) (fun x9 w9 H9 l9 hp _ _ _ => absurd hp (fun q9 => by obtain ⟨-, ho, -⟩ := q9; cases ho))
  clear hS hD hP
  obtain ⟨hx_3, ho, rfl⟩ := hp
  cases ho
  have hQ9 : (fun w9 => va_P G classes w9 H_1 ∧ va_D A w9) [(aBV_openers, .inl (cI, 101, .inl (fun k9 => iI (zBo.openers k9)))), (aBV_blockTypes, .inl (cI, 101, .inl (fun k9 => iI (zBo.blockTypes k9)))), (aBV_labelTypes, .inl (cI, 101, .inl (fun k9 => iI (zBo.labelTypes k9)))), (aBV, .inr (5, [.ref aWa, .ref aCo, .int (iI x_3.1.function), .ref aBV_types, .int (iI x_3.2.1.height), .ref aBV_openers, .ref aBV_bases, .ref aBV_blockTypes, .ref aBV_labelTypes, .ref aBV_unreachable, .int (iI zBo.openCount), .int (bI x_3.1.failed)])), (aBV_types, .inl (cI, 2000, .inl (fun k9 => iI (x_3.2.1.types k9)))), (aBV_bases, .inl (cI, 101, .inl (fun k9 => iI (zBo.bases k9)))), (aBV_unreachable, .inl (cZ, 101, .inl (fun k9 => bI (zBo.unreachable k9))))] := ⟨hP_1, hD_1⟩
  clear hP_1 hD_1
  obtain ⟨hP_1, hD_1⟩ := hQ9
  refine lv_pop hx hb d_BV_checkElse_17 rfl ?_
  refine lv_aload_n hx hb d_BV_checkElse_18 rfl (lv_at hl 1 rfl) ?_
  refine va_get (D := G) (ci := 5) (v := .int (iI x_3.2.1.height)) (C := R_BV) (T := F_BV) (N := 12) hx hb hts i_BV hown hK hP_1 3 rfl rfl 4 (by decide) (hts _ m_112) (fun _ h9 => h9) rfl d_BV_checkElse_19 ?_
  refine lv_aload_n hx hb d_BV_checkElse_22 rfl (lv_at hl 1 rfl) ?_
  refine va_get (D := G) (ci := 5) (v := .ref aBV_bases) (C := R_BV) (T := F_BV) (N := 12) hx hb hts i_BV hown hK hP_1 3 rfl rfl 6 (by decide) (hts _ m_114) (fun _ h9 => h9) rfl d_BV_checkElse_23 ?_
  refine lv_iload_n hx hb d_BV_checkElse_26 rfl (lv_at hl 0 rfl) ?_
  replace hf := grd hnb hf
  obtain ⟨g_5, hf⟩ := hf
  refine va_iald hx hb hK hP_1 5 1 rfl rfl (vp_in_iI g_1 g_5) d_BV_checkElse_27 ?_
  refine W.eq (g2 := F0 m 28 ls [.int (iI (zBo.bases (zBo.openCount - 1).toNat)), .int (iI x_3.2.1.height)]) (by rw [iI_clamp g_1] <;> rfl) ?_
  refine jpE hf (fun K_7 hK_7 hf9 => ?_)
  replace hf := hf9
  clear hf9
  have hJK_7 : ∀ (y_6 : KBV), KBV.Ok y_6 → K_7 y_6 = R9 → ∀ (H_1 : Heap) (locs_1 : List Loc), (fun w9 => va_P G classes w9 H_1 → va_D A w9 → va_S A s.heap H_1 locs_1 → ∀ (ls : Array Slot), lv_has ls 2 [(0, .ref aBV), (1, .int (iI (zBo.openCount - 1)))] → W p l e (headSpec (wx y_BV_checkElse b_BV_checkElse 2 none) { frames := 1, cells := 0, slots := 0, locals := 22 }).room s m ([.ref aBV] : List Value).toArray below meth c H_1 locs_1 0 0 (MX below (XQ G classes A (fun o w1 => ozp R9 (fun x9 => (KBV.Ok x9.1 ∧ KBt.Ok x9.2.1 ∧ KBo.Ok x9.2.2) ∧ o = .returned none ∧ w1 = [(aBV, .inr (5, [.ref aWa, .ref aCo, .int (iI x9.1.function), .ref aBV_types, .int (iI x9.2.1.height), .ref aBV_openers, .ref aBV_bases, .ref aBV_blockTypes, .ref aBV_labelTypes, .ref aBV_unreachable, .int (iI x9.2.2.openCount), .int (bI x9.1.failed)])), (aBV_types, .inl (cI, 2000, .inl (fun k9 => iI (x9.2.1.types k9)))), (aBV_openers, .inl (cI, 101, .inl (fun k9 => iI (x9.2.2.openers k9)))), (aBV_bases, .inl (cI, 101, .inl (fun k9 => iI (x9.2.2.bases k9)))), (aBV_blockTypes, .inl (cI, 101, .inl (fun k9 => iI (x9.2.2.blockTypes k9)))), (aBV_labelTypes, .inl (cI, 101, .inl (fun k9 => iI (x9.2.2.labelTypes k9)))), (aBV_unreachable, .inl (cZ, 101, .inl (fun k9 => bI (x9.2.2.unreachable k9))))]) (fun _ => False))) ([.ref aBV] : List Value).toArray s 0 0 A) (F0 m 36 ls [])) [(aBV_openers, .inl (cI, 101, .inl (fun k9 => iI (zBo.openers k9)))), (aBV_blockTypes, .inl (cI, 101, .inl (fun k9 => iI (zBo.blockTypes k9)))), (aBV_labelTypes, .inl (cI, 101, .inl (fun k9 => iI (zBo.labelTypes k9)))), (aBV, .inr (5, [.ref aWa, .ref aCo, .int (iI y_6.function), .ref aBV_types, .int (iI x_3.2.1.height), .ref aBV_openers, .ref aBV_bases, .ref aBV_blockTypes, .ref aBV_labelTypes, .ref aBV_unreachable, .int (iI zBo.openCount), .int (bI y_6.failed)])), (aBV_types, .inl (cI, 2000, .inl (fun k9 => iI (x_3.2.1.types k9)))), (aBV_bases, .inl (cI, 101, .inl (fun k9 => iI (zBo.bases k9)))), (aBV_unreachable, .inl (cZ, 101, .inl (fun k9 => bI (zBo.unreachable k9))))] := by
    intro y_6 hy_6 hf H_4 locs_4 hP_4 hD_4 hS_4 ls hl
    clear hS_1 hD_1 hP_1
    replace hf := (congrFun hK_7 y_6).symm.trans hf
    clear hK_7
    refine lv_aload_n hx hb d_BV_checkElse_36 rfl (lv_at hl 0 rfl) ?_
    refine va_get (D := G) (ci := 5) (v := .ref aBV_unreachable) (C := R_BV) (T := F_BV) (N := 12) hx hb hts i_BV hown hK hP_4 3 rfl rfl 9 (by decide) (hts _ m_117) (fun _ h9 => h9) rfl d_BV_checkElse_37 ?_
    refine lv_iload_n hx hb d_BV_checkElse_40 rfl (lv_at hl 1 rfl) ?_
    refine lv_iconst (v := iI 0) hx hb d_BV_checkElse_41 (by decide) ?_
    refine W.eq (g2 := F0 m 42 ls [.int (bI false), .int (iI (zBo.openCount - 1)), .ref aBV_unreachable]) (by rfl) ?_
    replace hf := grd hnb hf
    obtain ⟨g_8, hf⟩ := hf
    refine va_zast hx hb hK hP_4 hD_4 hS_4 6 3 rfl rfl (vp_in_iI g_1 g_8) d_BV_checkElse_42 (fun H_5 locs_5 hP_5 hD_5 hS_5 => ?_)
    clear hS_4 hD_4 hP_4
    rw [iI_clamp g_1, nar_bI, upd_bI] at hP_5 hD_5
    have hQ9 : (fun w9 => va_P G classes w9 H_5 ∧ va_D A w9) [(aBV_openers, .inl (cI, 101, .inl (fun k9 => iI (zBo.openers k9)))), (aBV_blockTypes, .inl (cI, 101, .inl (fun k9 => iI (zBo.blockTypes k9)))), (aBV_labelTypes, .inl (cI, 101, .inl (fun k9 => iI (zBo.labelTypes k9)))), (aBV, .inr (5, [.ref aWa, .ref aCo, .int (iI y_6.function), .ref aBV_types, .int (iI x_3.2.1.height), .ref aBV_openers, .ref aBV_bases, .ref aBV_blockTypes, .ref aBV_labelTypes, .ref aBV_unreachable, .int (iI zBo.openCount), .int (bI y_6.failed)])), (aBV_types, .inl (cI, 2000, .inl (fun k9 => iI (x_3.2.1.types k9)))), (aBV_bases, .inl (cI, 101, .inl (fun k9 => iI (zBo.bases k9)))), (aBV_unreachable, .inl (cZ, 101, .inl (fun k9 => bI ((updB zBo.unreachable (zBo.openCount - 1).toNat false) k9))))] := ⟨hP_5, hD_5⟩
    clear hP_5 hD_5
    obtain ⟨hP_5, hD_5⟩ := hQ9
    have hP_5 := hP_5.sub (ws' := [(aBV, .inr (5, [.ref aWa, .ref aCo, .int (iI y_6.function), .ref aBV_types, .int (iI x_3.2.1.height), .ref aBV_openers, .ref aBV_bases, .ref aBV_blockTypes, .ref aBV_labelTypes, .ref aBV_unreachable, .int (iI zBo.openCount), .int (bI y_6.failed)])), (aBV_types, .inl (cI, 2000, .inl (fun k9 => iI (x_3.2.1.types k9)))), (aBV_openers, .inl (cI, 101, .inl (fun k9 => iI (zBo.openers k9)))), (aBV_bases, .inl (cI, 101, .inl (fun k9 => iI (zBo.bases k9)))), (aBV_blockTypes, .inl (cI, 101, .inl (fun k9 => iI (zBo.blockTypes k9)))), (aBV_labelTypes, .inl (cI, 101, .inl (fun k9 => iI (zBo.labelTypes k9)))), (aBV_unreachable, .inl (cZ, 101, .inl (fun k9 => bI ((updB zBo.unreachable (zBo.openCount - 1).toNat false) k9))))]) [3, 4, 0, 5, 1, 2, 6] rfl
    have hD_5 := hD_5.sub (ws' := [(aBV, .inr (5, [.ref aWa, .ref aCo, .int (iI y_6.function), .ref aBV_types, .int (iI x_3.2.1.height), .ref aBV_openers, .ref aBV_bases, .ref aBV_blockTypes, .ref aBV_labelTypes, .ref aBV_unreachable, .int (iI zBo.openCount), .int (bI y_6.failed)])), (aBV_types, .inl (cI, 2000, .inl (fun k9 => iI (x_3.2.1.types k9)))), (aBV_openers, .inl (cI, 101, .inl (fun k9 => iI (zBo.openers k9)))), (aBV_bases, .inl (cI, 101, .inl (fun k9 => iI (zBo.bases k9)))), (aBV_blockTypes, .inl (cI, 101, .inl (fun k9 => iI (zBo.blockTypes k9)))), (aBV_labelTypes, .inl (cI, 101, .inl (fun k9 => iI (zBo.labelTypes k9)))), (aBV_unreachable, .inl (cZ, 101, .inl (fun k9 => bI ((updB zBo.unreachable (zBo.openCount - 1).toNat false) k9))))]) [3, 4, 0, 5, 1, 2, 6] (by decide +kernel) rfl
    exact ex_W (fun _ h => ex_mq h) (W.vret hx hb hr (fun t ht hW => ⟨⟨_, ozr hf ⟨⟨hy_6, hx_3.2.1, (KBo.Ok.mk hzBo.openers hzBo.bases hzBo.blockTypes hzBo.labelTypes hzBo.openCount : KBo.Ok (KBo.mk zBo.openers zBo.bases zBo.blockTypes zBo.labelTypes (updB zBo.unreachable (zBo.openCount - 1).toNat false) zBo.openCount))⟩, rfl, rfl⟩, by rw [ht]; exact hP_5, hD_5⟩, hS_5.F ht⟩) hS_5.2.2 d_BV_checkElse_43)
  clear hK_7
  refine lv_icmp_eq (tgt := 36) hx hb d_BV_checkElse_28 (by decide) (fun c_9 => ?_) (fun c_9 => ?_)
  · have c_9 := ((zv_eq (iI_t hx_3.2.1.height) (iI_t (hzBo.bases _)))).mp c_9
    replace hf := ifp c_9 hf
    exact hJK_7 x_3.1 hx_3.1 hf _ _ hP_1 hD_1 hS_1 _ (lv_sub hl [1, 0] rfl)
  · have c_9 := (fun q9 => c_9 (((zv_eq (iI_t hx_3.2.1.height) (iI_t (hzBo.bases _)))).mpr q9))
    replace hf := ifn c_9 hf
    refine lv_aload_n hx hb d_BV_checkElse_31 rfl (lv_at hl 1 rfl) ?_
    refine lv_iconst (v := iI 1) hx hb d_BV_checkElse_32 (by decide) ?_
    refine W.eq (g2 := F0 m 33 ls [.int (bI true), .ref aBV]) (by rfl) ?_
    refine va_put (D := G) (ci := 5) (v := .int (bI true)) (ty := .boolean) (C := R_BV) (T := F_BV) (N := 12) hx hb hts i_BV t_BV t_BV_ok n_BV hown hK hP_1 hD_1 hS_1 3 rfl rfl 11 (by decide) (hts _ m_119) (fun _ h9 => h9) rfl (by decide +kernel) (bI_nar _) (bI_fit _) (Nat.le_of_ble_eq_true rfl) d_BV_checkElse_33 (fun H_6 locs_6 hP_6 hD_6 hS_6 => ?_)
    clear hS_1 hD_1 hP_1
    have hQ9 : (fun w9 => va_P G classes w9 H_6 ∧ va_D A w9) [(aBV_openers, .inl (cI, 101, .inl (fun k9 => iI (zBo.openers k9)))), (aBV_blockTypes, .inl (cI, 101, .inl (fun k9 => iI (zBo.blockTypes k9)))), (aBV_labelTypes, .inl (cI, 101, .inl (fun k9 => iI (zBo.labelTypes k9)))), (aBV, .inr (5, [.ref aWa, .ref aCo, .int (iI x_3.1.function), .ref aBV_types, .int (iI x_3.2.1.height), .ref aBV_openers, .ref aBV_bases, .ref aBV_blockTypes, .ref aBV_labelTypes, .ref aBV_unreachable, .int (iI zBo.openCount), .int (bI true)])), (aBV_types, .inl (cI, 2000, .inl (fun k9 => iI (x_3.2.1.types k9)))), (aBV_bases, .inl (cI, 101, .inl (fun k9 => iI (zBo.bases k9)))), (aBV_unreachable, .inl (cZ, 101, .inl (fun k9 => bI (zBo.unreachable k9))))] := ⟨hP_6, hD_6⟩
    clear hP_6 hD_6
    obtain ⟨hP_6, hD_6⟩ := hQ9
    exact hJK_7 (KBV.mk x_3.1.function true) (KBV.Ok.mk hx_3.1.function : KBV.Ok (KBV.mk x_3.1.function true)) hf _ _ hP_6 hD_6 hS_6 _ (lv_sub hl [1, 0] rfl)
set_option maxHeartbeats 8000000 in
set_option maxRecDepth 100000 in
theorem k_BV_closeBlock (l : Launch) (htr : l.stackTraces = false) (G : va_G) (cB cI cJ cZ cG : ClassId) (aCo : Nat) (aCo_ops : Nat) (aCo_values : Nat) (aCo_extras : Nat) (aCo_ends : Nat) (aCo_elses : Nat) (aCo_heights : Nat) (aCo_targets : Nat) (aCo_labels : Nat) (aCo_labelTargets : Nat) (aBV : Nat) (aWa : Nat) (aBV_types : Nat) (aBV_openers : Nat) (aBV_bases : Nat) (aBV_blockTypes : Nat) (aBV_labelTypes : Nat) (aBV_unreachable : Nat) (zCo : KCo) (zBV : KBV) (zBt : KBt) (zBo : KBo) (hzCo : KCo.Ok zCo) (hzBV : KBV.Ok zBV) (hzBt : KBt.Ok zBt) (hzBo : KBo.Ok zBo) (R9 : Out Empty (KBV × KBt × KBo)) (hf : f_BV_closeBlock zCo zBV zBt zBo = R9) (hnb : R9 ≠ .bad) (sz : Nat) : MetX l y_BV_closeBlock (wx y_BV_closeBlock b_BV_closeBlock 3 none) { frames := 1, cells := 0, slots := 0, locals := 22 } (XP G classes (xtys cB cI cJ cZ cG) xE [.ref aBV] [(aCo, .inr (9, [.int (iI zCo.size), .ref aCo_ops, .ref aCo_values, .ref aCo_extras, .ref aCo_ends, .ref aCo_elses, .ref aCo_heights, .ref aCo_targets, .int (iI zCo.labelCount), .ref aCo_labels, .ref aCo_labelTargets])), (aCo_ops, .inl (cI, 2000, .inl (fun k9 => iI (zCo.ops k9)))), (aCo_elses, .inl (cI, 2000, .inl (fun k9 => iI (zCo.elses k9)))), (aBV, .inr (5, [.ref aWa, .ref aCo, .int (iI zBV.function), .ref aBV_types, .int (iI zBt.height), .ref aBV_openers, .ref aBV_bases, .ref aBV_blockTypes, .ref aBV_labelTypes, .ref aBV_unreachable, .int (iI zBo.openCount), .int (bI zBV.failed)])), (aBV_types, .inl (cI, 2000, .inl (fun k9 => iI (zBt.types k9)))), (aBV_openers, .inl (cI, 101, .inl (fun k9 => iI (zBo.openers k9)))), (aBV_bases, .inl (cI, 101, .inl (fun k9 => iI (zBo.bases k9)))), (aBV_blockTypes, .inl (cI, 101, .inl (fun k9 => iI (zBo.blockTypes k9)))), (aBV_labelTypes, .inl (cI, 101, .inl (fun k9 => iI (zBo.labelTypes k9)))), (aBV_unreachable, .inl (cZ, 101, .inl (fun k9 => bI (zBo.unreachable k9))))] sz) (XQ G classes (va_A [(aCo, .inr (9, [.int (iI zCo.size), .ref aCo_ops, .ref aCo_values, .ref aCo_extras, .ref aCo_ends, .ref aCo_elses, .ref aCo_heights, .ref aCo_targets, .int (iI zCo.labelCount), .ref aCo_labels, .ref aCo_labelTargets])), (aCo_ops, .inl (cI, 2000, .inl (fun k9 => iI (zCo.ops k9)))), (aCo_elses, .inl (cI, 2000, .inl (fun k9 => iI (zCo.elses k9)))), (aBV, .inr (5, [.ref aWa, .ref aCo, .int (iI zBV.function), .ref aBV_types, .int (iI zBt.height), .ref aBV_openers, .ref aBV_bases, .ref aBV_blockTypes, .ref aBV_labelTypes, .ref aBV_unreachable, .int (iI zBo.openCount), .int (bI zBV.failed)])), (aBV_types, .inl (cI, 2000, .inl (fun k9 => iI (zBt.types k9)))), (aBV_openers, .inl (cI, 101, .inl (fun k9 => iI (zBo.openers k9)))), (aBV_bases, .inl (cI, 101, .inl (fun k9 => iI (zBo.bases k9)))), (aBV_blockTypes, .inl (cI, 101, .inl (fun k9 => iI (zBo.blockTypes k9)))), (aBV_labelTypes, .inl (cI, 101, .inl (fun k9 => iI (zBo.labelTypes k9)))), (aBV_unreachable, .inl (cZ, 101, .inl (fun k9 => bI (zBo.unreachable k9))))] sz) (fun o w1 => ozp R9 (fun x9 => (KBV.Ok x9.1 ∧ KBt.Ok x9.2.1 ∧ KBo.Ok x9.2.2) ∧ o = .returned none ∧ w1 = [(aCo, .inr (9, [.int (iI zCo.size), .ref aCo_ops, .ref aCo_values, .ref aCo_extras, .ref aCo_ends, .ref aCo_elses, .ref aCo_heights, .ref aCo_targets, .int (iI zCo.labelCount), .ref aCo_labels, .ref aCo_labelTargets])), (aCo_ops, .inl (cI, 2000, .inl (fun k9 => iI (zCo.ops k9)))), (aCo_elses, .inl (cI, 2000, .inl (fun k9 => iI (zCo.elses k9)))), (aBV, .inr (5, [.ref aWa, .ref aCo, .int (iI x9.1.function), .ref aBV_types, .int (iI x9.2.1.height), .ref aBV_openers, .ref aBV_bases, .ref aBV_blockTypes, .ref aBV_labelTypes, .ref aBV_unreachable, .int (iI x9.2.2.openCount), .int (bI x9.1.failed)])), (aBV_types, .inl (cI, 2000, .inl (fun k9 => iI (x9.2.1.types k9)))), (aBV_openers, .inl (cI, 101, .inl (fun k9 => iI (x9.2.2.openers k9)))), (aBV_bases, .inl (cI, 101, .inl (fun k9 => iI (x9.2.2.bases k9)))), (aBV_blockTypes, .inl (cI, 101, .inl (fun k9 => iI (x9.2.2.blockTypes k9)))), (aBV_labelTypes, .inl (cI, 101, .inl (fun k9 => iI (x9.2.2.labelTypes k9)))), (aBV_unreachable, .inl (cZ, 101, .inl (fun k9 => bI (x9.2.2.unreachable k9))))]) (fun _ => False))) 0 0 (va_A [(aCo, .inr (9, [.int (iI zCo.size), .ref aCo_ops, .ref aCo_values, .ref aCo_extras, .ref aCo_ends, .ref aCo_elses, .ref aCo_heights, .ref aCo_targets, .int (iI zCo.labelCount), .ref aCo_labels, .ref aCo_labelTargets])), (aCo_ops, .inl (cI, 2000, .inl (fun k9 => iI (zCo.ops k9)))), (aCo_elses, .inl (cI, 2000, .inl (fun k9 => iI (zCo.elses k9)))), (aBV, .inr (5, [.ref aWa, .ref aCo, .int (iI zBV.function), .ref aBV_types, .int (iI zBt.height), .ref aBV_openers, .ref aBV_bases, .ref aBV_blockTypes, .ref aBV_labelTypes, .ref aBV_unreachable, .int (iI zBo.openCount), .int (bI zBV.failed)])), (aBV_types, .inl (cI, 2000, .inl (fun k9 => iI (zBt.types k9)))), (aBV_openers, .inl (cI, 101, .inl (fun k9 => iI (zBo.openers k9)))), (aBV_bases, .inl (cI, 101, .inl (fun k9 => iI (zBo.bases k9)))), (aBV_blockTypes, .inl (cI, 101, .inl (fun k9 => iI (zBo.blockTypes k9)))), (aBV_labelTypes, .inl (cI, 101, .inl (fun k9 => iI (zBo.labelTypes k9)))), (aBV_unreachable, .inl (cZ, 101, .inl (fun k9 => bI (zBo.unreachable k9))))] sz) := by
  refine ex_ofW (cc := b_BV_closeBlock) (maxL := 3) (ret := none) (by decide) rfl ?_
  intro p e s m args below meth c s₁ B hml hno hv
  obtain ⟨rfl, hsz, hP, hK, hD0, hE⟩ := hv
  have hx := B.exec
  have hb := B.bytes
  have hr := B.returns
  have hts : ∀ w ∈ lw_good, w.before _ s = true := fun w h => atoms_spec (ws := wx y_BV_closeBlock b_BV_closeBlock 3 none) B.pre w (List.mem_cons_of_mem _ h)
  have hown : s.vm.findClass R_BV = some m.cls := findClass_of_methodNamed B.named
  have hlocks := B.notSynchronized
  subst hsz
  have hNS := xx_nostat hP
  have hD := hD0.self (sz := s.heap.size)
  generalize hAe : va_A [(aCo, .inr (9, [.int (iI zCo.size), .ref aCo_ops, .ref aCo_values, .ref aCo_extras, .ref aCo_ends, .ref aCo_elses, .ref aCo_heights, .ref aCo_targets, .int (iI zCo.labelCount), .ref aCo_labels, .ref aCo_labelTargets])), (aCo_ops, .inl (cI, 2000, .inl (fun k9 => iI (zCo.ops k9)))), (aCo_elses, .inl (cI, 2000, .inl (fun k9 => iI (zCo.elses k9)))), (aBV, .inr (5, [.ref aWa, .ref aCo, .int (iI zBV.function), .ref aBV_types, .int (iI zBt.height), .ref aBV_openers, .ref aBV_bases, .ref aBV_blockTypes, .ref aBV_labelTypes, .ref aBV_unreachable, .int (iI zBo.openCount), .int (bI zBV.failed)])), (aBV_types, .inl (cI, 2000, .inl (fun k9 => iI (zBt.types k9)))), (aBV_openers, .inl (cI, 101, .inl (fun k9 => iI (zBo.openers k9)))), (aBV_bases, .inl (cI, 101, .inl (fun k9 => iI (zBo.bases k9)))), (aBV_blockTypes, .inl (cI, 101, .inl (fun k9 => iI (zBo.blockTypes k9)))), (aBV_labelTypes, .inl (cI, 101, .inl (fun k9 => iI (zBo.labelTypes k9)))), (aBV_unreachable, .inl (cZ, 101, .inl (fun k9 => bI (zBo.unreachable k9))))] s.heap.size = A at hD hE hNS ⊢
  have hA : ∀ q : Nat, s.heap.size ≤ q → A q := fun q h => by rw [← hAe]; exact Or.inr h
  have hS : va_S A s.heap s.heap [] := va_S.rf
  have hl := lv_entry ([.ref aBV]) (n := 3) (Nat.le_of_ble_eq_true rfl)
  rw [lg_entry_eq]
  generalize (lg_sl ([.ref aBV]) ++ List.replicate (3 - (lg_sl ([.ref aBV])).length) Slot.unset).toArray = ls at hl ⊢
  have hl : lv_has ls 3 [(0, .ref aBV)] := hl
  unfold f_BV_closeBlock at hf
  refine lv_aload_n hx hb d_BV_closeBlock_0 rfl (lv_at hl 0 rfl) ?_
  refine va_get (D := G) (ci := 5) (v := .int (iI zBo.openCount)) (C := R_BV) (T := F_BV) (N := 12) hx hb hts i_BV hown hK hP 3 rfl rfl 10 (by decide) (hts _ m_118) (fun _ h9 => h9) rfl d_BV_closeBlock_1 ?_
  refine lv_iconst (v := iI 1) hx hb d_BV_closeBlock_4 (by decide) ?_
  refine lv_isub hx hb d_BV_closeBlock_5 ?_
  refine lv_topi (fun x9 e9 => ?_)
  obtain rfl : x9 = iI (zBo.openCount - 1) := e9.trans (iI_sub _ _)
  replace hf := grd hnb hf
  obtain ⟨g_1, hf⟩ := hf
  refine lv_istore_n (lv' := [(1, .int (iI (zBo.openCount - 1))), (0, .ref aBV)]) hx hb d_BV_closeBlock_6 rfl hl (by decide) rfl (fun ls hl => ?_)
  refine lv_aload_n hx hb d_BV_closeBlock_7 rfl (lv_at hl 1 rfl) ?_
  refine va_get (D := G) (ci := 5) (v := .ref aBV_openers) (C := R_BV) (T := F_BV) (N := 12) hx hb hts i_BV hown hK hP 3 rfl rfl 5 (by decide) (hts _ m_113) (fun _ h9 => h9) rfl d_BV_closeBlock_8 ?_
  refine lv_iload_n hx hb d_BV_closeBlock_11 rfl (lv_at hl 0 rfl) ?_
  replace hf := grd hnb hf
  obtain ⟨g_2, hf⟩ := hf
  refine va_iald hx hb hK hP 5 1 rfl rfl (vp_in_iI g_1 g_2) d_BV_closeBlock_12 ?_
  refine W.eq (g2 := F0 m 13 ls [.int (iI (zBo.openers (zBo.openCount - 1).toNat))]) (by rw [iI_clamp g_1] <;> rfl) ?_
  refine lv_istore_n (lv' := [(2, .int (iI (zBo.openers (zBo.openCount - 1).toNat))), (1, .int (iI (zBo.openCount - 1))), (0, .ref aBV)]) hx hb d_BV_closeBlock_13 rfl hl (by decide) rfl (fun ls hl => ?_)
  refine lv_aload_n hx hb d_BV_closeBlock_14 rfl (lv_at hl 2 rfl) ?_
  refine lv_aload_n hx hb d_BV_closeBlock_15 rfl (lv_at hl 2 rfl) ?_
  refine va_get (D := G) (ci := 5) (v := .ref aBV_blockTypes) (C := R_BV) (T := F_BV) (N := 12) hx hb hts i_BV hown hK hP 3 rfl rfl 7 (by decide) (hts _ m_115) (fun _ h9 => h9) rfl d_BV_closeBlock_16 ?_
  refine lv_iload_n hx hb d_BV_closeBlock_19 rfl (lv_at hl 1 rfl) ?_
  replace hf := grd hnb hf
  obtain ⟨g_3, hf⟩ := hf
  refine va_iald hx hb hK hP 7 1 rfl rfl (vp_in_iI g_1 g_3) d_BV_closeBlock_20 ?_
  refine W.eq (g2 := F0 m 21 ls [.int (iI (zBo.blockTypes (zBo.openCount - 1).toNat)), .ref aBV]) (by rw [iI_clamp g_1] <;> rfl) ?_
  replace hf := obE hnb hf
  obtain ⟨x_4, e_5, hf⟩ := hf
  refine xx_callV (wc := [(aBV, .inr (5, [.ref aWa, .ref aCo, .int (iI zBV.function), .ref aBV_types, .int (iI zBt.height), .ref aBV_openers, .ref aBV_bases, .ref aBV_blockTypes, .ref aBV_labelTypes, .ref aBV_unreachable, .int (iI zBo.openCount), .int (bI zBV.failed)])), (aBV_types, .inl (cI, 2000, .inl (fun k9 => iI (zBt.types k9)))), (aBV_bases, .inl (cI, 101, .inl (fun k9 => iI (zBo.bases k9)))), (aBV_unreachable, .inl (cZ, 101, .inl (fun k9 => bI (zBo.unreachable k9))))]) (wr := [(aCo, .inr (9, [.int (iI zCo.size), .ref aCo_ops, .ref aCo_values, .ref aCo_extras, .ref aCo_ends, .ref aCo_elses, .ref aCo_heights, .ref aCo_targets, .int (iI zCo.labelCount), .ref aCo_labels, .ref aCo_labelTargets])), (aCo_ops, .inl (cI, 2000, .inl (fun k9 => iI (zCo.ops k9)))), (aCo_elses, .inl (cI, 2000, .inl (fun k9 => iI (zCo.elses k9)))), (aBV_openers, .inl (cI, 101, .inl (fun k9 => iI (zBo.openers k9)))), (aBV_blockTypes, .inl (cI, 101, .inl (fun k9 => iI (zBo.blockTypes k9)))), (aBV_labelTypes, .inl (cI, 101, .inl (fun k9 => iI (zBo.labelTypes k9))))]) (As := [.int (iI (zBo.blockTypes (zBo.openCount - 1).toNat))]) (rest := []) ⟨hx, hb, hml, hown, hts⟩ xE_st hK hE hA (k_BV_pop l htr G cB cI cJ cZ cG aBV aWa aCo aBV_types aBV_openers aBV_bases aBV_blockTypes aBV_labelTypes aBV_unreachable zBV zBt zBo hzBV hzBt hzBo (zBo.blockTypes (zBo.openCount - 1).toNat) (hzBo.blockTypes _) (.ret x_4) e_5 ret_nb _) (xw_V 1 hts m_804 m_806 ms_BV_pop m_6 m_807 (by decide +kernel) ⟨(Nat.le_of_ble_eq_true rfl), (Nat.le_of_ble_eq_true rfl)⟩) hP hD hS [3, 4, 6, 9] [0, 1, 2, 5, 7, 8] rfl rfl (by decide +kernel) (by decide +kernel) (by decide +kernel) 0 5 rfl rfl rfl rfl hl.1 rfl (Nat.le_of_ble_eq_true rfl) d_BV_closeBlock_21 ⟨(Nat.le_of_ble_eq_true rfl), (Nat.le_of_ble_eq_true rfl)⟩ (fun v9 w9 H_1 locs_1 hp hP_1 hD_1 hS_1 => ?_) (fun x9 w9 H9 l9 hp _ _ _ => absurd hp (fun q9 => by obtain ⟨-, ho, -⟩ := q9; cases ho))
  clear hS hD hP
  obtain ⟨hx_4, ho, rfl⟩ := hp
  cases ho
  have hQ9 : (fun w9 => va_P G classes w9 H_1 ∧ va_D A w9) [(aCo, .inr (9, [.int (iI zCo.size), .ref aCo_ops, .ref aCo_values, .ref aCo_extras, .ref aCo_ends, .ref aCo_elses, .ref aCo_heights, .ref aCo_targets, .int (iI zCo.labelCount), .ref aCo_labels, .ref aCo_labelTargets])), (aCo_ops, .inl (cI, 2000, .inl (fun k9 => iI (zCo.ops k9)))), (aCo_elses, .inl (cI, 2000, .inl (fun k9 => iI (zCo.elses k9)))), (aBV_openers, .inl (cI, 101, .inl (fun k9 => iI (zBo.openers k9)))), (aBV_blockTypes, .inl (cI, 101, .inl (fun k9 => iI (zBo.blockTypes k9)))), (aBV_labelTypes, .inl (cI, 101, .inl (fun k9 => iI (zBo.labelTypes k9)))), (aBV, .inr (5, [.ref aWa, .ref aCo, .int (iI x_4.1.function), .ref aBV_types, .int (iI x_4.2.1.height), .ref aBV_openers, .ref aBV_bases, .ref aBV_blockTypes, .ref aBV_labelTypes, .ref aBV_unreachable, .int (iI zBo.openCount), .int (bI x_4.1.failed)])), (aBV_types, .inl (cI, 2000, .inl (fun k9 => iI (x_4.2.1.types k9)))), (aBV_bases, .inl (cI, 101, .inl (fun k9 => iI (zBo.bases k9)))), (aBV_unreachable, .inl (cZ, 101, .inl (fun k9 => bI (zBo.unreachable k9))))] := ⟨hP_1, hD_1⟩
  clear hP_1 hD_1
  obtain ⟨hP_1, hD_1⟩ := hQ9
  refine lv_pop hx hb d_BV_closeBlock_24 rfl ?_
  refine lv_aload_n hx hb d_BV_closeBlock_25 rfl (lv_at hl 2 rfl) ?_
  refine va_get (D := G) (ci := 5) (v := .int (iI x_4.2.1.height)) (C := R_BV) (T := F_BV) (N := 12) hx hb hts i_BV hown hK hP_1 6 rfl rfl 4 (by decide) (hts _ m_112) (fun _ h9 => h9) rfl d_BV_closeBlock_26 ?_
  refine lv_aload_n hx hb d_BV_closeBlock_29 rfl (lv_at hl 2 rfl) ?_
  refine va_get (D := G) (ci := 5) (v := .ref aBV_bases) (C := R_BV) (T := F_BV) (N := 12) hx hb hts i_BV hown hK hP_1 6 rfl rfl 6 (by decide) (hts _ m_114) (fun _ h9 => h9) rfl d_BV_closeBlock_30 ?_
  refine lv_iload_n hx hb d_BV_closeBlock_33 rfl (lv_at hl 1 rfl) ?_
  replace hf := grd hnb hf
  obtain ⟨g_6, hf⟩ := hf
  refine va_iald hx hb hK hP_1 8 1 rfl rfl (vp_in_iI g_1 g_6) d_BV_closeBlock_34 ?_
  refine W.eq (g2 := F0 m 35 ls [.int (iI (zBo.bases (zBo.openCount - 1).toNat)), .int (iI x_4.2.1.height)]) (by rw [iI_clamp g_1] <;> rfl) ?_
  refine jpE hf (fun K_8 hK_8 hf9 => ?_)
  replace hf := hf9
  clear hf9
  have hJK_8 : ∀ (y_7 : KBV), KBV.Ok y_7 → K_8 y_7 = R9 → ∀ (H_1 : Heap) (locs_1 : List Loc), (fun w9 => va_P G classes w9 H_1 → va_D A w9 → va_S A s.heap H_1 locs_1 → ∀ (ls : Array Slot), lv_has ls 3 [(0, .ref aBV), (1, .int (iI (zBo.openCount - 1))), (2, .int (iI (zBo.openers (zBo.openCount - 1).toNat)))] → W p l e (headSpec (wx y_BV_closeBlock b_BV_closeBlock 3 none) { frames := 1, cells := 0, slots := 0, locals := 22 }).room s m ([.ref aBV] : List Value).toArray below meth c H_1 locs_1 0 0 (MX below (XQ G classes A (fun o w1 => ozp R9 (fun x9 => (KBV.Ok x9.1 ∧ KBt.Ok x9.2.1 ∧ KBo.Ok x9.2.2) ∧ o = .returned none ∧ w1 = [(aCo, .inr (9, [.int (iI zCo.size), .ref aCo_ops, .ref aCo_values, .ref aCo_extras, .ref aCo_ends, .ref aCo_elses, .ref aCo_heights, .ref aCo_targets, .int (iI zCo.labelCount), .ref aCo_labels, .ref aCo_labelTargets])), (aCo_ops, .inl (cI, 2000, .inl (fun k9 => iI (zCo.ops k9)))), (aCo_elses, .inl (cI, 2000, .inl (fun k9 => iI (zCo.elses k9)))), (aBV, .inr (5, [.ref aWa, .ref aCo, .int (iI x9.1.function), .ref aBV_types, .int (iI x9.2.1.height), .ref aBV_openers, .ref aBV_bases, .ref aBV_blockTypes, .ref aBV_labelTypes, .ref aBV_unreachable, .int (iI x9.2.2.openCount), .int (bI x9.1.failed)])), (aBV_types, .inl (cI, 2000, .inl (fun k9 => iI (x9.2.1.types k9)))), (aBV_openers, .inl (cI, 101, .inl (fun k9 => iI (x9.2.2.openers k9)))), (aBV_bases, .inl (cI, 101, .inl (fun k9 => iI (x9.2.2.bases k9)))), (aBV_blockTypes, .inl (cI, 101, .inl (fun k9 => iI (x9.2.2.blockTypes k9)))), (aBV_labelTypes, .inl (cI, 101, .inl (fun k9 => iI (x9.2.2.labelTypes k9)))), (aBV_unreachable, .inl (cZ, 101, .inl (fun k9 => bI (x9.2.2.unreachable k9))))]) (fun _ => False))) ([.ref aBV] : List Value).toArray s 0 0 A) (F0 m 43 ls [])) [(aCo, .inr (9, [.int (iI zCo.size), .ref aCo_ops, .ref aCo_values, .ref aCo_extras, .ref aCo_ends, .ref aCo_elses, .ref aCo_heights, .ref aCo_targets, .int (iI zCo.labelCount), .ref aCo_labels, .ref aCo_labelTargets])), (aCo_ops, .inl (cI, 2000, .inl (fun k9 => iI (zCo.ops k9)))), (aCo_elses, .inl (cI, 2000, .inl (fun k9 => iI (zCo.elses k9)))), (aBV_openers, .inl (cI, 101, .inl (fun k9 => iI (zBo.openers k9)))), (aBV_blockTypes, .inl (cI, 101, .inl (fun k9 => iI (zBo.blockTypes k9)))), (aBV_labelTypes, .inl (cI, 101, .inl (fun k9 => iI (zBo.labelTypes k9)))), (aBV, .inr (5, [.ref aWa, .ref aCo, .int (iI y_7.function), .ref aBV_types, .int (iI x_4.2.1.height), .ref aBV_openers, .ref aBV_bases, .ref aBV_blockTypes, .ref aBV_labelTypes, .ref aBV_unreachable, .int (iI zBo.openCount), .int (bI y_7.failed)])), (aBV_types, .inl (cI, 2000, .inl (fun k9 => iI (x_4.2.1.types k9)))), (aBV_bases, .inl (cI, 101, .inl (fun k9 => iI (zBo.bases k9)))), (aBV_unreachable, .inl (cZ, 101, .inl (fun k9 => bI (zBo.unreachable k9))))] := by
    intro y_7 hy_7 hf H_10 locs_10 hP_10 hD_10 hS_10 ls hl
    clear hS_1 hD_1 hP_1
    replace hf := (congrFun hK_8 y_7).symm.trans hf
    clear hK_8
    refine lv_iload_n hx hb d_BV_closeBlock_43 rfl (lv_at hl 2 rfl) ?_
    refine jpE hf (fun K_10 hK_10 hf9 => ?_)
    replace hf := hf9
    clear hf9
    have hJK_10 : ∀ (y_9 : KBV), KBV.Ok y_9 → K_10 y_9 = R9 → ∀ (H_10 : Heap) (locs_10 : List Loc), (fun w9 => va_P G classes w9 H_10 → va_D A w9 → va_S A s.heap H_10 locs_10 → ∀ (ls : Array Slot), lv_has ls 3 [(0, .ref aBV), (1, .int (iI (zBo.openCount - 1))), (2, .int (iI (zBo.openers (zBo.openCount - 1).toNat)))] → W p l e (headSpec (wx y_BV_closeBlock b_BV_closeBlock 3 none) { frames := 1, cells := 0, slots := 0, locals := 22 }).room s m ([.ref aBV] : List Value).toArray below meth c H_10 locs_10 0 0 (MX below (XQ G classes A (fun o w1 => ozp R9 (fun x9 => (KBV.Ok x9.1 ∧ KBt.Ok x9.2.1 ∧ KBo.Ok x9.2.2) ∧ o = .returned none ∧ w1 = [(aCo, .inr (9, [.int (iI zCo.size), .ref aCo_ops, .ref aCo_values, .ref aCo_extras, .ref aCo_ends, .ref aCo_elses, .ref aCo_heights, .ref aCo_targets, .int (iI zCo.labelCount), .ref aCo_labels, .ref aCo_labelTargets])), (aCo_ops, .inl (cI, 2000, .inl (fun k9 => iI (zCo.ops k9)))), (aCo_elses, .inl (cI, 2000, .inl (fun k9 => iI (zCo.elses k9)))), (aBV, .inr (5, [.ref aWa, .ref aCo, .int (iI x9.1.function), .ref aBV_types, .int (iI x9.2.1.height), .ref aBV_openers, .ref aBV_bases, .ref aBV_blockTypes, .ref aBV_labelTypes, .ref aBV_unreachable, .int (iI x9.2.2.openCount), .int (bI x9.1.failed)])), (aBV_types, .inl (cI, 2000, .inl (fun k9 => iI (x9.2.1.types k9)))), (aBV_openers, .inl (cI, 101, .inl (fun k9 => iI (x9.2.2.openers k9)))), (aBV_bases, .inl (cI, 101, .inl (fun k9 => iI (x9.2.2.bases k9)))), (aBV_blockTypes, .inl (cI, 101, .inl (fun k9 => iI (x9.2.2.blockTypes k9)))), (aBV_labelTypes, .inl (cI, 101, .inl (fun k9 => iI (x9.2.2.labelTypes k9)))), (aBV_unreachable, .inl (cZ, 101, .inl (fun k9 => bI (x9.2.2.unreachable k9))))]) (fun _ => False))) ([.ref aBV] : List Value).toArray s 0 0 A) (F0 m 88 ls [])) [(aCo, .inr (9, [.int (iI zCo.size), .ref aCo_ops, .ref aCo_values, .ref aCo_extras, .ref aCo_ends, .ref aCo_elses, .ref aCo_heights, .ref aCo_targets, .int (iI zCo.labelCount), .ref aCo_labels, .ref aCo_labelTargets])), (aCo_ops, .inl (cI, 2000, .inl (fun k9 => iI (zCo.ops k9)))), (aCo_elses, .inl (cI, 2000, .inl (fun k9 => iI (zCo.elses k9)))), (aBV_openers, .inl (cI, 101, .inl (fun k9 => iI (zBo.openers k9)))), (aBV_blockTypes, .inl (cI, 101, .inl (fun k9 => iI (zBo.blockTypes k9)))), (aBV_labelTypes, .inl (cI, 101, .inl (fun k9 => iI (zBo.labelTypes k9)))), (aBV, .inr (5, [.ref aWa, .ref aCo, .int (iI y_9.function), .ref aBV_types, .int (iI x_4.2.1.height), .ref aBV_openers, .ref aBV_bases, .ref aBV_blockTypes, .ref aBV_labelTypes, .ref aBV_unreachable, .int (iI zBo.openCount), .int (bI y_9.failed)])), (aBV_types, .inl (cI, 2000, .inl (fun k9 => iI (x_4.2.1.types k9)))), (aBV_bases, .inl (cI, 101, .inl (fun k9 => iI (zBo.bases k9)))), (aBV_unreachable, .inl (cZ, 101, .inl (fun k9 => bI (zBo.unreachable k9))))] := by
      intro y_9 hy_9 hf H_14 locs_14 hP_14 hD_14 hS_14 ls hl
      clear hS_10 hD_10 hP_10
      replace hf := (congrFun hK_10 y_9).symm.trans hf
      clear hK_10
      refine lv_aload_n hx hb d_BV_closeBlock_88 rfl (lv_at hl 0 rfl) ?_
      refine lv_dup hx hb d_BV_closeBlock_89 rfl ?_
      refine va_get (D := G) (ci := 5) (v := .int (iI zBo.openCount)) (C := R_BV) (T := F_BV) (N := 12) hx hb hts i_BV hown hK hP_14 6 rfl rfl 10 (by decide) (hts _ m_118) (fun _ h9 => h9) rfl d_BV_closeBlock_90 ?_
      refine lv_iconst (v := iI 1) hx hb d_BV_closeBlock_93 (by decide) ?_
      refine lv_isub hx hb d_BV_closeBlock_94 ?_
      refine lv_topi (fun x9 e9 => ?_)
      obtain rfl : x9 = iI (zBo.openCount - 1) := e9.trans (iI_sub _ _)
      replace hf := grd hnb hf
      obtain ⟨g_11, hf⟩ := hf
      refine va_put (D := G) (ci := 5) (v := .int (iI (zBo.openCount - 1))) (ty := .int) (C := R_BV) (T := F_BV) (N := 12) hx hb hts i_BV t_BV t_BV_ok n_BV hown hK hP_14 hD_14 hS_14 6 rfl rfl 10 (by decide) (hts _ m_118) (fun _ h9 => h9) rfl (by decide +kernel) rfl rfl (Nat.le_of_ble_eq_true rfl) d_BV_closeBlock_95 (fun H_15 locs_15 hP_15 hD_15 hS_15 => ?_)
      clear hS_14 hD_14 hP_14
      have hQ9 : (fun w9 => va_P G classes w9 H_15 ∧ va_D A w9) [(aCo, .inr (9, [.int (iI zCo.size), .ref aCo_ops, .ref aCo_values, .ref aCo_extras, .ref aCo_ends, .ref aCo_elses, .ref aCo_heights, .ref aCo_targets, .int (iI zCo.labelCount), .ref aCo_labels, .ref aCo_labelTargets])), (aCo_ops, .inl (cI, 2000, .inl (fun k9 => iI (zCo.ops k9)))), (aCo_elses, .inl (cI, 2000, .inl (fun k9 => iI (zCo.elses k9)))), (aBV_openers, .inl (cI, 101, .inl (fun k9 => iI (zBo.openers k9)))), (aBV_blockTypes, .inl (cI, 101, .inl (fun k9 => iI (zBo.blockTypes k9)))), (aBV_labelTypes, .inl (cI, 101, .inl (fun k9 => iI (zBo.labelTypes k9)))), (aBV, .inr (5, [.ref aWa, .ref aCo, .int (iI y_9.function), .ref aBV_types, .int (iI x_4.2.1.height), .ref aBV_openers, .ref aBV_bases, .ref aBV_blockTypes, .ref aBV_labelTypes, .ref aBV_unreachable, .int (iI (zBo.openCount - 1)), .int (bI y_9.failed)])), (aBV_types, .inl (cI, 2000, .inl (fun k9 => iI (x_4.2.1.types k9)))), (aBV_bases, .inl (cI, 101, .inl (fun k9 => iI (zBo.bases k9)))), (aBV_unreachable, .inl (cZ, 101, .inl (fun k9 => bI (zBo.unreachable k9))))] := ⟨hP_15, hD_15⟩
      clear hP_15 hD_15
      obtain ⟨hP_15, hD_15⟩ := hQ9
      refine lv_aload_n hx hb d_BV_closeBlock_98 rfl (lv_at hl 0 rfl) ?_
      refine lv_aload_n hx hb d_BV_closeBlock_99 rfl (lv_at hl 0 rfl) ?_
      refine va_get (D := G) (ci := 5) (v := .ref aBV_blockTypes) (C := R_BV) (T := F_BV) (N := 12) hx hb hts i_BV hown hK hP_15 6 rfl rfl 7 (by decide) (hts _ m_115) (fun _ h9 => h9) rfl d_BV_closeBlock_100 ?_
      refine lv_iload_n hx hb d_BV_closeBlock_103 rfl (lv_at hl 1 rfl) ?_
      replace hf := grd hnb hf
      obtain ⟨g_12, hf⟩ := hf
      refine va_iald hx hb hK hP_15 4 1 rfl rfl (vp_in_iI g_11 g_12) d_BV_closeBlock_104 ?_
      refine W.eq (g2 := F0 m 105 ls [.int (iI (zBo.blockTypes (zBo.openCount - 1).toNat)), .ref aBV]) (by rw [iI_clamp g_11] <;> rfl) ?_
      replace hf := obE hnb hf
      obtain ⟨x_13, e_14, hf⟩ := hf
      refine xx_callV (wc := [(aBV, .inr (5, [.ref aWa, .ref aCo, .int (iI y_9.function), .ref aBV_types, .int (iI x_4.2.1.height), .ref aBV_openers, .ref aBV_bases, .ref aBV_blockTypes, .ref aBV_labelTypes, .ref aBV_unreachable, .int (iI (zBo.openCount - 1)), .int (bI y_9.failed)])), (aBV_types, .inl (cI, 2000, .inl (fun k9 => iI (x_4.2.1.types k9))))]) (wr := [(aCo, .inr (9, [.int (iI zCo.size), .ref aCo_ops, .ref aCo_values, .ref aCo_extras, .ref aCo_ends, .ref aCo_elses, .ref aCo_heights, .ref aCo_targets, .int (iI zCo.labelCount), .ref aCo_labels, .ref aCo_labelTargets])), (aCo_ops, .inl (cI, 2000, .inl (fun k9 => iI (zCo.ops k9)))), (aCo_elses, .inl (cI, 2000, .inl (fun k9 => iI (zCo.elses k9)))), (aBV_openers, .inl (cI, 101, .inl (fun k9 => iI (zBo.openers k9)))), (aBV_blockTypes, .inl (cI, 101, .inl (fun k9 => iI (zBo.blockTypes k9)))), (aBV_labelTypes, .inl (cI, 101, .inl (fun k9 => iI (zBo.labelTypes k9)))), (aBV_bases, .inl (cI, 101, .inl (fun k9 => iI (zBo.bases k9)))), (aBV_unreachable, .inl (cZ, 101, .inl (fun k9 => bI (zBo.unreachable k9))))]) (As := [.int (iI (zBo.blockTypes (zBo.openCount - 1).toNat))]) (rest := []) ⟨hx, hb, hml, hown, hts⟩ xE_st hK hE hA (k_BV_push l htr G cB cI cJ cZ cG aBV aWa aCo aBV_types aBV_openers aBV_bases aBV_blockTypes aBV_labelTypes aBV_unreachable y_9 x_4.2.1 (KBo.mk zBo.openers zBo.bases zBo.blockTypes zBo.labelTypes zBo.unreachable (zBo.openCount - 1)) hy_9 hx_4.2.1 (KBo.Ok.mk hzBo.openers hzBo.bases hzBo.blockTypes hzBo.labelTypes g_11 : KBo.Ok (KBo.mk zBo.openers zBo.bases zBo.blockTypes zBo.labelTypes zBo.unreachable (zBo.openCount - 1))) (zBo.blockTypes (zBo.openCount - 1).toNat) (hzBo.blockTypes _) (.ret x_13) e_14 ret_nb _) (xw_V 1 hts m_820 m_822 ms_BV_push m_6 m_823 (by decide +kernel) ⟨(Nat.le_of_ble_eq_true rfl), (Nat.le_of_ble_eq_true rfl)⟩) hP_15 hD_15 hS_15 [6, 7] [0, 1, 2, 3, 4, 5, 8, 9] rfl rfl (by decide +kernel) (by decide +kernel) (by decide +kernel) 0 5 rfl rfl rfl rfl hl.1 rfl (Nat.le_of_ble_eq_true rfl) d_BV_closeBlock_105 ⟨(Nat.le_of_ble_eq_true rfl), (Nat.le_of_ble_eq_true rfl)⟩ (fun v9 w9 H_16 locs_16 hp hP_16 hD_16 hS_16 => ?_) (fun x9 w9 H9 l9 hp _ _ _ => absurd hp (fun q9 => by obtain ⟨-, ho, -⟩ := q9; cases ho))
      clear hS_15 hD_15 hP_15
      obtain ⟨hx_13, ho, rfl⟩ := hp
      cases ho
      have hQ9 : (fun w9 => va_P G classes w9 H_16 ∧ va_D A w9) [(aCo, .inr (9, [.int (iI zCo.size), .ref aCo_ops, .ref aCo_values, .ref aCo_extras, .ref aCo_ends, .ref aCo_elses, .ref aCo_heights, .ref aCo_targets, .int (iI zCo.labelCount), .ref aCo_labels, .ref aCo_labelTargets])), (aCo_ops, .inl (cI, 2000, .inl (fun k9 => iI (zCo.ops k9)))), (aCo_elses, .inl (cI, 2000, .inl (fun k9 => iI (zCo.elses k9)))), (aBV_openers, .inl (cI, 101, .inl (fun k9 => iI (zBo.openers k9)))), (aBV_blockTypes, .inl (cI, 101, .inl (fun k9 => iI (zBo.blockTypes k9)))), (aBV_labelTypes, .inl (cI, 101, .inl (fun k9 => iI (zBo.labelTypes k9)))), (aBV_bases, .inl (cI, 101, .inl (fun k9 => iI (zBo.bases k9)))), (aBV_unreachable, .inl (cZ, 101, .inl (fun k9 => bI (zBo.unreachable k9)))), (aBV, .inr (5, [.ref aWa, .ref aCo, .int (iI x_13.1.function), .ref aBV_types, .int (iI x_13.2.height), .ref aBV_openers, .ref aBV_bases, .ref aBV_blockTypes, .ref aBV_labelTypes, .ref aBV_unreachable, .int (iI (zBo.openCount - 1)), .int (bI x_13.1.failed)])), (aBV_types, .inl (cI, 2000, .inl (fun k9 => iI (x_13.2.types k9))))] := ⟨hP_16, hD_16⟩
      clear hP_16 hD_16
      obtain ⟨hP_16, hD_16⟩ := hQ9
      have hP_16 := hP_16.sub (ws' := [(aCo, .inr (9, [.int (iI zCo.size), .ref aCo_ops, .ref aCo_values, .ref aCo_extras, .ref aCo_ends, .ref aCo_elses, .ref aCo_heights, .ref aCo_targets, .int (iI zCo.labelCount), .ref aCo_labels, .ref aCo_labelTargets])), (aCo_ops, .inl (cI, 2000, .inl (fun k9 => iI (zCo.ops k9)))), (aCo_elses, .inl (cI, 2000, .inl (fun k9 => iI (zCo.elses k9)))), (aBV, .inr (5, [.ref aWa, .ref aCo, .int (iI x_13.1.function), .ref aBV_types, .int (iI x_13.2.height), .ref aBV_openers, .ref aBV_bases, .ref aBV_blockTypes, .ref aBV_labelTypes, .ref aBV_unreachable, .int (iI (zBo.openCount - 1)), .int (bI x_13.1.failed)])), (aBV_types, .inl (cI, 2000, .inl (fun k9 => iI (x_13.2.types k9)))), (aBV_openers, .inl (cI, 101, .inl (fun k9 => iI (zBo.openers k9)))), (aBV_bases, .inl (cI, 101, .inl (fun k9 => iI (zBo.bases k9)))), (aBV_blockTypes, .inl (cI, 101, .inl (fun k9 => iI (zBo.blockTypes k9)))), (aBV_labelTypes, .inl (cI, 101, .inl (fun k9 => iI (zBo.labelTypes k9)))), (aBV_unreachable, .inl (cZ, 101, .inl (fun k9 => bI (zBo.unreachable k9))))]) [0, 1, 2, 8, 9, 3, 6, 4, 5, 7] rfl
      have hD_16 := hD_16.sub (ws' := [(aCo, .inr (9, [.int (iI zCo.size), .ref aCo_ops, .ref aCo_values, .ref aCo_extras, .ref aCo_ends, .ref aCo_elses, .ref aCo_heights, .ref aCo_targets, .int (iI zCo.labelCount), .ref aCo_labels, .ref aCo_labelTargets])), (aCo_ops, .inl (cI, 2000, .inl (fun k9 => iI (zCo.ops k9)))), (aCo_elses, .inl (cI, 2000, .inl (fun k9 => iI (zCo.elses k9)))), (aBV, .inr (5, [.ref aWa, .ref aCo, .int (iI x_13.1.function), .ref aBV_types, .int (iI x_13.2.height), .ref aBV_openers, .ref aBV_bases, .ref aBV_blockTypes, .ref aBV_labelTypes, .ref aBV_unreachable, .int (iI (zBo.openCount - 1)), .int (bI x_13.1.failed)])), (aBV_types, .inl (cI, 2000, .inl (fun k9 => iI (x_13.2.types k9)))), (aBV_openers, .inl (cI, 101, .inl (fun k9 => iI (zBo.openers k9)))), (aBV_bases, .inl (cI, 101, .inl (fun k9 => iI (zBo.bases k9)))), (aBV_blockTypes, .inl (cI, 101, .inl (fun k9 => iI (zBo.blockTypes k9)))), (aBV_labelTypes, .inl (cI, 101, .inl (fun k9 => iI (zBo.labelTypes k9)))), (aBV_unreachable, .inl (cZ, 101, .inl (fun k9 => bI (zBo.unreachable k9))))]) [0, 1, 2, 8, 9, 3, 6, 4, 5, 7] (by decide +kernel) rfl
      exact ex_W (fun _ h => ex_mq h) (W.vret hx hb hr (fun t ht hW => ⟨⟨_, ozr hf ⟨⟨hx_13.1, hx_13.2, (KBo.Ok.mk hzBo.openers hzBo.bases hzBo.blockTypes hzBo.labelTypes g_11 : KBo.Ok (KBo.mk zBo.openers zBo.bases zBo.blockTypes zBo.labelTypes zBo.unreachable (zBo.openCount - 1)))⟩, rfl, rfl⟩, by rw [ht]; exact hP_16, hD_16⟩, hS_16.F ht⟩) hS_16.2.2 d_BV_closeBlock_108)
    clear hK_10
    refine lv_if_lt (tgt := 88) hx hb d_BV_closeBlock_44 (by decide) (fun c_15 => ?_) (fun c_15 => ?_)
    · have c_15 := ((zv_lt (iI_t (hzBo.openers _)) zero_v)).mp c_15
      replace hf := ifp c_15 hf
      exact hJK_10 y_7 hy_7 hf _ _ hP_10 hD_10 hS_10 _ (lv_sub hl [0, 1, 2] rfl)
    · have c_15 := (fun q9 => c_15 (((zv_lt (iI_t (hzBo.openers _)) zero_v)).mpr q9))
      replace hf := ifn c_15 hf
      refine lv_aload_n hx hb d_BV_closeBlock_47 rfl (lv_at hl 0 rfl) ?_
      refine va_get (D := G) (ci := 5) (v := .ref aCo) (C := R_BV) (T := F_BV) (N := 12) hx hb hts i_BV hown hK hP_10 6 rfl rfl 1 (by decide) (hts _ m_109) (fun _ h9 => h9) rfl d_BV_closeBlock_48 ?_
      refine va_get (D := G) (ci := 9) (v := .ref aCo_ops) (C := R_Co) (T := F_Co) (N := 11) hx hb hts i_Co hown hK hP_10 0 rfl rfl 1 (by decide) (hts _ m_260) (fun _ h9 => h9) rfl d_BV_closeBlock_51 ?_
      refine lv_iload_n hx hb d_BV_closeBlock_54 rfl (lv_at hl 2 rfl) ?_
      replace hf := grd hnb hf
      obtain ⟨g_16, hf⟩ := hf
      refine va_iald hx hb hK hP_10 1 1 rfl rfl (vp_in_iI (hzBo.openers _) g_16) d_BV_closeBlock_55 ?_
      refine W.eq (g2 := F0 m 56 ls [.int (iI (zCo.ops (zBo.openers (zBo.openCount - 1).toNat).toNat))]) (by rw [iI_clamp (hzBo.openers _)] <;> rfl) ?_
      refine lv_iconst (v := iI 4) hx hb d_BV_closeBlock_56 (by decide) ?_
      refine lv_icmp_ne (tgt := 88) hx hb d_BV_closeBlock_57 (by decide) (fun c_17 => ?_) (fun c_17 => ?_)
      · have c_17 := (fun q9 => c_17 (((zv_eq (iI_t (hzCo.ops _)) (iI_t (show R32 (4) by decide)))).mpr q9))
        replace hf := ifn c_17 hf
        exact hJK_10 y_7 hy_7 hf _ _ hP_10 hD_10 hS_10 _ (lv_sub hl [0, 1, 2] rfl)
      · have c_17 := ((zv_eq (iI_t (hzCo.ops _)) (iI_t (show R32 (4) by decide)))).mp c_17
        replace hf := ifp c_17 hf
        refine lv_aload_n hx hb d_BV_closeBlock_60 rfl (lv_at hl 0 rfl) ?_
        refine va_get (D := G) (ci := 5) (v := .ref aCo) (C := R_BV) (T := F_BV) (N := 12) hx hb hts i_BV hown hK hP_10 6 rfl rfl 1 (by decide) (hts _ m_109) (fun _ h9 => h9) rfl d_BV_closeBlock_61 ?_
        refine va_get (D := G) (ci := 9) (v := .ref aCo_elses) (C := R_Co) (T := F_Co) (N := 11) hx hb hts i_Co hown hK hP_10 0 rfl rfl 5 (by decide) (hts _ m_277) (fun _ h9 => h9) rfl d_BV_closeBlock_64 ?_
        refine lv_iload_n hx hb d_BV_closeBlock_67 rfl (lv_at hl 2 rfl) ?_
        replace hf := grd hnb hf
        obtain ⟨g_18, hf⟩ := hf
        refine va_iald hx hb hK hP_10 2 1 rfl rfl (vp_in_iI (hzBo.openers _) g_18) d_BV_closeBlock_68 ?_
        refine W.eq (g2 := F0 m 69 ls [.int (iI (zCo.elses (zBo.openers (zBo.openCount - 1).toNat).toNat))]) (by rw [iI_clamp (hzBo.openers _)] <;> rfl) ?_
        refine lv_if_ge (tgt := 88) hx hb d_BV_closeBlock_69 (by decide) (fun c_19 => ?_) (fun c_19 => ?_)
        · have c_19 := ((zv_le zero_v (iI_t (hzCo.elses _)))).mp c_19
          replace hf := ifp c_19 hf
          exact hJK_10 y_7 hy_7 hf _ _ hP_10 hD_10 hS_10 _ (lv_sub hl [0, 1, 2] rfl)
        · have c_19 := (fun q9 => c_19 (((zv_le zero_v (iI_t (hzCo.elses _)))).mpr q9))
          replace hf := ifn c_19 hf
          refine lv_aload_n hx hb d_BV_closeBlock_72 rfl (lv_at hl 0 rfl) ?_
          refine va_get (D := G) (ci := 5) (v := .ref aBV_blockTypes) (C := R_BV) (T := F_BV) (N := 12) hx hb hts i_BV hown hK hP_10 6 rfl rfl 7 (by decide) (hts _ m_115) (fun _ h9 => h9) rfl d_BV_closeBlock_73 ?_
          refine lv_iload_n hx hb d_BV_closeBlock_76 rfl (lv_at hl 1 rfl) ?_
          replace hf := grd hnb hf
          obtain ⟨g_20, hf⟩ := hf
          refine va_iald hx hb hK hP_10 4 1 rfl rfl (vp_in_iI g_1 g_20) d_BV_closeBlock_77 ?_
          refine W.eq (g2 := F0 m 78 ls [.int (iI (zBo.blockTypes (zBo.openCount - 1).toNat))]) (by rw [iI_clamp g_1] <;> rfl) ?_
          refine lv_bipush (v := iI 64) hx hb d_BV_closeBlock_78 (by decide) ?_
          refine lv_icmp_eq (tgt := 88) hx hb d_BV_closeBlock_80 (by decide) (fun c_21 => ?_) (fun c_21 => ?_)
          · have c_21 := ((zv_eq (iI_t (hzBo.blockTypes _)) (iI_t (show R32 (64) by decide)))).mp c_21
            replace hf := ifp c_21 hf
            exact hJK_10 y_7 hy_7 hf _ _ hP_10 hD_10 hS_10 _ (lv_sub hl [0, 1, 2] rfl)
          · have c_21 := (fun q9 => c_21 (((zv_eq (iI_t (hzBo.blockTypes _)) (iI_t (show R32 (64) by decide)))).mpr q9))
            replace hf := ifn c_21 hf
            refine lv_aload_n hx hb d_BV_closeBlock_83 rfl (lv_at hl 0 rfl) ?_
            refine lv_iconst (v := iI 1) hx hb d_BV_closeBlock_84 (by decide) ?_
            refine W.eq (g2 := F0 m 85 ls [.int (bI true), .ref aBV]) (by rfl) ?_
            refine va_put (D := G) (ci := 5) (v := .int (bI true)) (ty := .boolean) (C := R_BV) (T := F_BV) (N := 12) hx hb hts i_BV t_BV t_BV_ok n_BV hown hK hP_10 hD_10 hS_10 6 rfl rfl 11 (by decide) (hts _ m_119) (fun _ h9 => h9) rfl (by decide +kernel) (bI_nar _) (bI_fit _) (Nat.le_of_ble_eq_true rfl) d_BV_closeBlock_85 (fun H_17 locs_17 hP_17 hD_17 hS_17 => ?_)
            clear hS_10 hD_10 hP_10
            have hQ9 : (fun w9 => va_P G classes w9 H_17 ∧ va_D A w9) [(aCo, .inr (9, [.int (iI zCo.size), .ref aCo_ops, .ref aCo_values, .ref aCo_extras, .ref aCo_ends, .ref aCo_elses, .ref aCo_heights, .ref aCo_targets, .int (iI zCo.labelCount), .ref aCo_labels, .ref aCo_labelTargets])), (aCo_ops, .inl (cI, 2000, .inl (fun k9 => iI (zCo.ops k9)))), (aCo_elses, .inl (cI, 2000, .inl (fun k9 => iI (zCo.elses k9)))), (aBV_openers, .inl (cI, 101, .inl (fun k9 => iI (zBo.openers k9)))), (aBV_blockTypes, .inl (cI, 101, .inl (fun k9 => iI (zBo.blockTypes k9)))), (aBV_labelTypes, .inl (cI, 101, .inl (fun k9 => iI (zBo.labelTypes k9)))), (aBV, .inr (5, [.ref aWa, .ref aCo, .int (iI y_7.function), .ref aBV_types, .int (iI x_4.2.1.height), .ref aBV_openers, .ref aBV_bases, .ref aBV_blockTypes, .ref aBV_labelTypes, .ref aBV_unreachable, .int (iI zBo.openCount), .int (bI true)])), (aBV_types, .inl (cI, 2000, .inl (fun k9 => iI (x_4.2.1.types k9)))), (aBV_bases, .inl (cI, 101, .inl (fun k9 => iI (zBo.bases k9)))), (aBV_unreachable, .inl (cZ, 101, .inl (fun k9 => bI (zBo.unreachable k9))))] := ⟨hP_17, hD_17⟩
            clear hP_17 hD_17
            obtain ⟨hP_17, hD_17⟩ := hQ9
            exact hJK_10 (KBV.mk y_7.function true) (KBV.Ok.mk hy_7.function : KBV.Ok (KBV.mk y_7.function true)) hf _ _ hP_17 hD_17 hS_17 _ (lv_sub hl [0, 1, 2] rfl)
  clear hK_8
  refine lv_icmp_eq (tgt := 43) hx hb d_BV_closeBlock_35 (by decide) (fun c_22 => ?_) (fun c_22 => ?_)
  · have c_22 := ((zv_eq (iI_t hx_4.2.1.height) (iI_t (hzBo.bases _)))).mp c_22
    replace hf := ifp c_22 hf
    exact hJK_8 x_4.1 hx_4.1 hf _ _ hP_1 hD_1 hS_1 _ (lv_sub hl [2, 1, 0] rfl)
  · have c_22 := (fun q9 => c_22 (((zv_eq (iI_t hx_4.2.1.height) (iI_t (hzBo.bases _)))).mpr q9))
    replace hf := ifn c_22 hf
    refine lv_aload_n hx hb d_BV_closeBlock_38 rfl (lv_at hl 2 rfl) ?_
    refine lv_iconst (v := iI 1) hx hb d_BV_closeBlock_39 (by decide) ?_
    refine W.eq (g2 := F0 m 40 ls [.int (bI true), .ref aBV]) (by rfl) ?_
    refine va_put (D := G) (ci := 5) (v := .int (bI true)) (ty := .boolean) (C := R_BV) (T := F_BV) (N := 12) hx hb hts i_BV t_BV t_BV_ok n_BV hown hK hP_1 hD_1 hS_1 6 rfl rfl 11 (by decide) (hts _ m_119) (fun _ h9 => h9) rfl (by decide +kernel) (bI_nar _) (bI_fit _) (Nat.le_of_ble_eq_true rfl) d_BV_closeBlock_40 (fun H_18 locs_18 hP_18 hD_18 hS_18 => ?_)
    clear hS_1 hD_1 hP_1
    have hQ9 : (fun w9 => va_P G classes w9 H_18 ∧ va_D A w9) [(aCo, .inr (9, [.int (iI zCo.size), .ref aCo_ops, .ref aCo_values, .ref aCo_extras, .ref aCo_ends, .ref aCo_elses, .ref aCo_heights, .ref aCo_targets, .int (iI zCo.labelCount), .ref aCo_labels, .ref aCo_labelTargets])), (aCo_ops, .inl (cI, 2000, .inl (fun k9 => iI (zCo.ops k9)))), (aCo_elses, .inl (cI, 2000, .inl (fun k9 => iI (zCo.elses k9)))), (aBV_openers, .inl (cI, 101, .inl (fun k9 => iI (zBo.openers k9)))), (aBV_blockTypes, .inl (cI, 101, .inl (fun k9 => iI (zBo.blockTypes k9)))), (aBV_labelTypes, .inl (cI, 101, .inl (fun k9 => iI (zBo.labelTypes k9)))), (aBV, .inr (5, [.ref aWa, .ref aCo, .int (iI x_4.1.function), .ref aBV_types, .int (iI x_4.2.1.height), .ref aBV_openers, .ref aBV_bases, .ref aBV_blockTypes, .ref aBV_labelTypes, .ref aBV_unreachable, .int (iI zBo.openCount), .int (bI true)])), (aBV_types, .inl (cI, 2000, .inl (fun k9 => iI (x_4.2.1.types k9)))), (aBV_bases, .inl (cI, 101, .inl (fun k9 => iI (zBo.bases k9)))), (aBV_unreachable, .inl (cZ, 101, .inl (fun k9 => bI (zBo.unreachable k9))))] := ⟨hP_18, hD_18⟩
    clear hP_18 hD_18
    obtain ⟨hP_18, hD_18⟩ := hQ9
    exact hJK_8 (KBV.mk x_4.1.function true) (KBV.Ok.mk hx_4.1.function : KBV.Ok (KBV.mk x_4.1.function true)) hf _ _ hP_18 hD_18 hS_18 _ (lv_sub hl [2, 1, 0] rfl)
set_option maxHeartbeats 8000000 in
set_option maxRecDepth 100000 in
theorem k_BV_levelOf (l : Launch) (htr : l.stackTraces = false) (G : va_G) (cB cI cJ cZ cG : ClassId) (aBV : Nat) (aWa : Nat) (aCo : Nat) (aBV_types : Nat) (aBV_openers : Nat) (aBV_bases : Nat) (aBV_blockTypes : Nat) (aBV_labelTypes : Nat) (aBV_unreachable : Nat) (zBV : KBV) (zBt : KBt) (zBo : KBo) (hzBV : KBV.Ok zBV) (hzBt : KBt.Ok zBt) (hzBo : KBo.Ok zBo) (v_label : Int64) (R9 : Out Empty (Int)) (hf : f_BV_levelOf zBo v_label = R9) (hnb : R9 ≠ .bad) (sz : Nat) : MetX l y_BV_levelOf (wx y_BV_levelOf b_BV_levelOf 3 (some .int)) { frames := 0, cells := 0, slots := 0, locals := 0 } (XP G classes (xtys cB cI cJ cZ cG) xE [.ref aBV, .long v_label] [(aBV, .inr (5, [.ref aWa, .ref aCo, .int (iI zBV.function), .ref aBV_types, .int (iI zBt.height), .ref aBV_openers, .ref aBV_bases, .ref aBV_blockTypes, .ref aBV_labelTypes, .ref aBV_unreachable, .int (iI zBo.openCount), .int (bI zBV.failed)]))] sz) (XQ G classes (va_A [(aBV, .inr (5, [.ref aWa, .ref aCo, .int (iI zBV.function), .ref aBV_types, .int (iI zBt.height), .ref aBV_openers, .ref aBV_bases, .ref aBV_blockTypes, .ref aBV_labelTypes, .ref aBV_unreachable, .int (iI zBo.openCount), .int (bI zBV.failed)]))] sz) (fun o w1 => ozp R9 (fun x9 => (R32 x9) ∧ o = .returned (some (.int (iI x9))) ∧ w1 = [(aBV, .inr (5, [.ref aWa, .ref aCo, .int (iI zBV.function), .ref aBV_types, .int (iI zBt.height), .ref aBV_openers, .ref aBV_bases, .ref aBV_blockTypes, .ref aBV_labelTypes, .ref aBV_unreachable, .int (iI zBo.openCount), .int (bI zBV.failed)]))]) (fun _ => False))) 0 0 (va_A [(aBV, .inr (5, [.ref aWa, .ref aCo, .int (iI zBV.function), .ref aBV_types, .int (iI zBt.height), .ref aBV_openers, .ref aBV_bases, .ref aBV_blockTypes, .ref aBV_labelTypes, .ref aBV_unreachable, .int (iI zBo.openCount), .int (bI zBV.failed)]))] sz) := by
  refine ex_ofW (cc := b_BV_levelOf) (maxL := 3) (ret := (some .int)) (by decide) rfl ?_
  intro p e s m args below meth c s₁ B hml hno hv
  obtain ⟨rfl, hsz, hP, hK, hD0, hE⟩ := hv
  have hx := B.exec
  have hb := B.bytes
  have hr := B.returns
  have hts : ∀ w ∈ lw_good, w.before _ s = true := fun w h => atoms_spec (ws := wx y_BV_levelOf b_BV_levelOf 3 (some .int)) B.pre w (List.mem_cons_of_mem _ h)
  have hown : s.vm.findClass R_BV = some m.cls := findClass_of_methodNamed B.named
  have hlocks := B.notSynchronized
  subst hsz
  have hNS := xx_nostat hP
  have hD := hD0.self (sz := s.heap.size)
  generalize hAe : va_A [(aBV, .inr (5, [.ref aWa, .ref aCo, .int (iI zBV.function), .ref aBV_types, .int (iI zBt.height), .ref aBV_openers, .ref aBV_bases, .ref aBV_blockTypes, .ref aBV_labelTypes, .ref aBV_unreachable, .int (iI zBo.openCount), .int (bI zBV.failed)]))] s.heap.size = A at hD hE hNS ⊢
  have hA : ∀ q : Nat, s.heap.size ≤ q → A q := fun q h => by rw [← hAe]; exact Or.inr h
  have hS : va_S A s.heap s.heap [] := va_S.rf
  have hl := lv_entry ([.ref aBV, .long v_label]) (n := 3) (Nat.le_of_ble_eq_true rfl)
  rw [lg_entry_eq]
  generalize (lg_sl ([.ref aBV, .long v_label]) ++ List.replicate (3 - (lg_sl ([.ref aBV, .long v_label])).length) Slot.unset).toArray = ls at hl ⊢
  have hl : lv_has ls 3 [(0, .ref aBV), (1, .long v_label)] := hl
  unfold f_BV_levelOf at hf
  refine lv_lload_n hx hb d_BV_levelOf_0 rfl (lv_at hl 1 rfl) ?_
  refine lv_aload_n hx hb d_BV_levelOf_1 rfl (lv_at hl 0 rfl) ?_
  refine va_get (D := G) (ci := 5) (v := .int (iI zBo.openCount)) (C := R_BV) (T := F_BV) (N := 12) hx hb hts i_BV hown hK hP 0 rfl rfl 10 (by decide) (hts _ m_118) (fun _ h9 => h9) rfl d_BV_levelOf_2 ?_
  refine lv_i2l hx hb d_BV_levelOf_5 rfl ?_
  refine W.lcmp hx hb d_BV_levelOf_6 ?_
  refine jpE hf (fun K_2 hK_2 hf9 => ?_)
  replace hf := hf9
  clear hf9
  have hJK_2 : ∀ (y_1 : Int), R32 y_1 → K_2 y_1 = R9 → ∀ (H : Heap) (locs : List Loc), (fun w9 => va_P G classes w9 H → va_D A w9 → va_S A s.heap H locs → ∀ (ls : Array Slot), lv_has ls 3 [(0, .ref aBV), (1, .long v_label)] → W p l e (headSpec (wx y_BV_levelOf b_BV_levelOf 3 (some .int)) { frames := 0, cells := 0, slots := 0, locals := 0 }).room s m ([.ref aBV, .long v_label] : List Value).toArray below meth c H locs 0 0 (MX below (XQ G classes A (fun o w1 => ozp R9 (fun x9 => (R32 x9) ∧ o = .returned (some (.int (iI x9))) ∧ w1 = [(aBV, .inr (5, [.ref aWa, .ref aCo, .int (iI zBV.function), .ref aBV_types, .int (iI zBt.height), .ref aBV_openers, .ref aBV_bases, .ref aBV_blockTypes, .ref aBV_labelTypes, .ref aBV_unreachable, .int (iI zBo.openCount), .int (bI zBV.failed)]))]) (fun _ => False))) ([.ref aBV, .long v_label] : List Value).toArray s 0 0 A) (F0 m 23 ls [.int (iI y_1)])) [(aBV, .inr (5, [.ref aWa, .ref aCo, .int (iI zBV.function), .ref aBV_types, .int (iI zBt.height), .ref aBV_openers, .ref aBV_bases, .ref aBV_blockTypes, .ref aBV_labelTypes, .ref aBV_unreachable, .int (iI zBo.openCount), .int (bI zBV.failed)]))] := by
    intro y_1 hy_1 hf H_1 locs_1 hP_1 hD_1 hS_1 ls hl
    clear hS hD hP
    replace hf := (congrFun hK_2 y_1).symm.trans hf
    clear hK_2
    exact ex_W (fun _ h => ex_mq h) (W.iret (v := iI y_1) hx hb hr (fun t ht hW => ⟨⟨_, ozr hf ⟨hy_1, rfl, rfl⟩, by rw [ht]; exact hP_1, hD_1⟩, hS_1.F ht⟩) hS_1.2.2 d_BV_levelOf_23)
  clear hK_2
  refine lv_if_ge (tgt := 22) hx hb d_BV_levelOf_7 (by decide) (fun c_3 => ?_) (fun c_3 => ?_)
  · have c_3 := (lc_ge).mp c_3
    replace hf := ifp c_3 hf
    refine lv_iconst (v := iI (-1)) hx hb d_BV_levelOf_22 (by decide) ?_
    exact hJK_2 (-1) (show R32 (-1) by decide) hf _ _ hP hD hS _ (lv_sub hl [0, 1] rfl)
  · have c_3 := (fun q9 => c_3 ((lc_ge).mpr q9))
    replace hf := ifn c_3 hf
    refine lv_aload_n hx hb d_BV_levelOf_10 rfl (lv_at hl 0 rfl) ?_
    refine va_get (D := G) (ci := 5) (v := .int (iI zBo.openCount)) (C := R_BV) (T := F_BV) (N := 12) hx hb hts i_BV hown hK hP 0 rfl rfl 10 (by decide) (hts _ m_118) (fun _ h9 => h9) rfl d_BV_levelOf_11 ?_
    refine lv_iconst (v := iI 1) hx hb d_BV_levelOf_14 (by decide) ?_
    refine lv_isub hx hb d_BV_levelOf_15 ?_
    refine lv_topi (fun x9 e9 => ?_)
    obtain rfl : x9 = iI (zBo.openCount - 1) := e9.trans (iI_sub _ _)
    replace hf := grd hnb hf
    obtain ⟨g_4, hf⟩ := hf
    refine lv_lload_n hx hb d_BV_levelOf_16 rfl (lv_at hl 1 rfl) ?_
    refine lv_l2i hx hb d_BV_levelOf_17 rfl ?_
    refine lv_isub hx hb d_BV_levelOf_18 ?_
    refine lv_goto (tgt := 23) hx hb d_BV_levelOf_19 (by decide) ?_
    refine W.eq (g2 := F0 m 23 ls [.int (iI (((iI (zBo.openCount - 1)) - v_label.toInt32).toInt))]) (by rw [← iI_of ((iI (zBo.openCount - 1)) - v_label.toInt32)] <;> rfl) ?_
    exact hJK_2 (((iI (zBo.openCount - 1)) - v_label.toInt32).toInt) (R32_of _) hf _ _ hP hD hS _ (lv_sub hl [0, 1] rfl)
set_option maxHeartbeats 8000000 in
set_option maxRecDepth 100000 in
theorem k_BV_checkBranch (l : Launch) (htr : l.stackTraces = false) (G : va_G) (cB cI cJ cZ cG : ClassId) (aCo : Nat) (aCo_ops : Nat) (aCo_values : Nat) (aCo_extras : Nat) (aCo_ends : Nat) (aCo_elses : Nat) (aCo_heights : Nat) (aCo_targets : Nat) (aCo_labels : Nat) (aCo_labelTargets : Nat) (aBV : Nat) (aWa : Nat) (aBV_types : Nat) (aBV_openers : Nat) (aBV_bases : Nat) (aBV_blockTypes : Nat) (aBV_labelTypes : Nat) (aBV_unreachable : Nat) (zCo : KCo) (zCt : KCt) (zBV : KBV) (zBt : KBt) (zBo : KBo) (hzCo : KCo.Ok zCo) (hzCt : KCt.Ok zCt) (hzBV : KBV.Ok zBV) (hzBt : KBt.Ok zBt) (hzBo : KBo.Ok zBo) (v_op : Int) (v_at : Int) (hv_op : R32 v_op) (hv_at : R32 v_at) (R9 : Out Empty (KCt × KBV × KBt × KBo)) (hf : f_BV_checkBranch zCo zCt zBV zBt zBo v_op v_at = R9) (hnb : R9 ≠ .bad) (sz : Nat) : MetX l y_BV_checkBranch (wx y_BV_checkBranch b_BV_checkBranch 4 none) { frames := 1, cells := 0, slots := 0, locals := 22 } (XP G classes (xtys cB cI cJ cZ cG) xE [.ref aBV, .int (iI v_op), .int (iI v_at)] [(aCo, .inr (9, [.int (iI zCo.size), .ref aCo_ops, .ref aCo_values, .ref aCo_extras, .ref aCo_ends, .ref aCo_elses, .ref aCo_heights, .ref aCo_targets, .int (iI zCo.labelCount), .ref aCo_labels, .ref aCo_labelTargets])), (aCo_values, .inl (cJ, 2000, .inr (.inl zCo.values))), (aCo_heights, .inl (cI, 2000, .inl (fun k9 => iI (zCt.heights k9)))), (aCo_targets, .inl (cI, 2000, .inl (fun k9 => iI (zCt.targets k9)))), (aCo_labelTargets, .inl (cI, 2000, .inl (fun k9 => iI (zCt.labelTargets k9)))), (aBV, .inr (5, [.ref aWa, .ref aCo, .int (iI zBV.function), .ref aBV_types, .int (iI zBt.height), .ref aBV_openers, .ref aBV_bases, .ref aBV_blockTypes, .ref aBV_labelTypes, .ref aBV_unreachable, .int (iI zBo.openCount), .int (bI zBV.failed)])), (aBV_types, .inl (cI, 2000, .inl (fun k9 => iI (zBt.types k9)))), (aBV_openers, .inl (cI, 101, .inl (fun k9 => iI (zBo.openers k9)))), (aBV_bases, .inl (cI, 101, .inl (fun k9 => iI (zBo.bases k9)))), (aBV_blockTypes, .inl (cI, 101, .inl (fun k9 => iI (zBo.blockTypes k9)))), (aBV_labelTypes, .inl (cI, 101, .inl (fun k9 => iI (zBo.labelTypes k9)))), (aBV_unreachable, .inl (cZ, 101, .inl (fun k9 => bI (zBo.unreachable k9))))] sz) (XQ G classes (va_A [(aCo, .inr (9, [.int (iI zCo.size), .ref aCo_ops, .ref aCo_values, .ref aCo_extras, .ref aCo_ends, .ref aCo_elses, .ref aCo_heights, .ref aCo_targets, .int (iI zCo.labelCount), .ref aCo_labels, .ref aCo_labelTargets])), (aCo_values, .inl (cJ, 2000, .inr (.inl zCo.values))), (aCo_heights, .inl (cI, 2000, .inl (fun k9 => iI (zCt.heights k9)))), (aCo_targets, .inl (cI, 2000, .inl (fun k9 => iI (zCt.targets k9)))), (aCo_labelTargets, .inl (cI, 2000, .inl (fun k9 => iI (zCt.labelTargets k9)))), (aBV, .inr (5, [.ref aWa, .ref aCo, .int (iI zBV.function), .ref aBV_types, .int (iI zBt.height), .ref aBV_openers, .ref aBV_bases, .ref aBV_blockTypes, .ref aBV_labelTypes, .ref aBV_unreachable, .int (iI zBo.openCount), .int (bI zBV.failed)])), (aBV_types, .inl (cI, 2000, .inl (fun k9 => iI (zBt.types k9)))), (aBV_openers, .inl (cI, 101, .inl (fun k9 => iI (zBo.openers k9)))), (aBV_bases, .inl (cI, 101, .inl (fun k9 => iI (zBo.bases k9)))), (aBV_blockTypes, .inl (cI, 101, .inl (fun k9 => iI (zBo.blockTypes k9)))), (aBV_labelTypes, .inl (cI, 101, .inl (fun k9 => iI (zBo.labelTypes k9)))), (aBV_unreachable, .inl (cZ, 101, .inl (fun k9 => bI (zBo.unreachable k9))))] sz) (fun o w1 => ozp R9 (fun x9 => (KCt.Ok x9.1 ∧ KBV.Ok x9.2.1 ∧ KBt.Ok x9.2.2.1 ∧ KBo.Ok x9.2.2.2) ∧ o = .returned none ∧ w1 = [(aCo, .inr (9, [.int (iI zCo.size), .ref aCo_ops, .ref aCo_values, .ref aCo_extras, .ref aCo_ends, .ref aCo_elses, .ref aCo_heights, .ref aCo_targets, .int (iI zCo.labelCount), .ref aCo_labels, .ref aCo_labelTargets])), (aCo_values, .inl (cJ, 2000, .inr (.inl zCo.values))), (aCo_heights, .inl (cI, 2000, .inl (fun k9 => iI (x9.1.heights k9)))), (aCo_targets, .inl (cI, 2000, .inl (fun k9 => iI (x9.1.targets k9)))), (aCo_labelTargets, .inl (cI, 2000, .inl (fun k9 => iI (x9.1.labelTargets k9)))), (aBV, .inr (5, [.ref aWa, .ref aCo, .int (iI x9.2.1.function), .ref aBV_types, .int (iI x9.2.2.1.height), .ref aBV_openers, .ref aBV_bases, .ref aBV_blockTypes, .ref aBV_labelTypes, .ref aBV_unreachable, .int (iI x9.2.2.2.openCount), .int (bI x9.2.1.failed)])), (aBV_types, .inl (cI, 2000, .inl (fun k9 => iI (x9.2.2.1.types k9)))), (aBV_openers, .inl (cI, 101, .inl (fun k9 => iI (x9.2.2.2.openers k9)))), (aBV_bases, .inl (cI, 101, .inl (fun k9 => iI (x9.2.2.2.bases k9)))), (aBV_blockTypes, .inl (cI, 101, .inl (fun k9 => iI (x9.2.2.2.blockTypes k9)))), (aBV_labelTypes, .inl (cI, 101, .inl (fun k9 => iI (x9.2.2.2.labelTypes k9)))), (aBV_unreachable, .inl (cZ, 101, .inl (fun k9 => bI (x9.2.2.2.unreachable k9))))]) (fun _ => False))) 0 0 (va_A [(aCo, .inr (9, [.int (iI zCo.size), .ref aCo_ops, .ref aCo_values, .ref aCo_extras, .ref aCo_ends, .ref aCo_elses, .ref aCo_heights, .ref aCo_targets, .int (iI zCo.labelCount), .ref aCo_labels, .ref aCo_labelTargets])), (aCo_values, .inl (cJ, 2000, .inr (.inl zCo.values))), (aCo_heights, .inl (cI, 2000, .inl (fun k9 => iI (zCt.heights k9)))), (aCo_targets, .inl (cI, 2000, .inl (fun k9 => iI (zCt.targets k9)))), (aCo_labelTargets, .inl (cI, 2000, .inl (fun k9 => iI (zCt.labelTargets k9)))), (aBV, .inr (5, [.ref aWa, .ref aCo, .int (iI zBV.function), .ref aBV_types, .int (iI zBt.height), .ref aBV_openers, .ref aBV_bases, .ref aBV_blockTypes, .ref aBV_labelTypes, .ref aBV_unreachable, .int (iI zBo.openCount), .int (bI zBV.failed)])), (aBV_types, .inl (cI, 2000, .inl (fun k9 => iI (zBt.types k9)))), (aBV_openers, .inl (cI, 101, .inl (fun k9 => iI (zBo.openers k9)))), (aBV_bases, .inl (cI, 101, .inl (fun k9 => iI (zBo.bases k9)))), (aBV_blockTypes, .inl (cI, 101, .inl (fun k9 => iI (zBo.blockTypes k9)))), (aBV_labelTypes, .inl (cI, 101, .inl (fun k9 => iI (zBo.labelTypes k9)))), (aBV_unreachable, .inl (cZ, 101, .inl (fun k9 => bI (zBo.unreachable k9))))] sz) := by
  refine ex_ofW (cc := b_BV_checkBranch) (maxL := 4) (ret := none) (by decide) rfl ?_
  intro p e s m args below meth c s₁ B hml hno hv
  obtain ⟨rfl, hsz, hP, hK, hD0, hE⟩ := hv
  have hx := B.exec
  have hb := B.bytes
  have hr := B.returns
  have hts : ∀ w ∈ lw_good, w.before _ s = true := fun w h => atoms_spec (ws := wx y_BV_checkBranch b_BV_checkBranch 4 none) B.pre w (List.mem_cons_of_mem _ h)
  have hown : s.vm.findClass R_BV = some m.cls := findClass_of_methodNamed B.named
  have hlocks := B.notSynchronized
  subst hsz
  have hNS := xx_nostat hP
  have hD := hD0.self (sz := s.heap.size)
  generalize hAe : va_A [(aCo, .inr (9, [.int (iI zCo.size), .ref aCo_ops, .ref aCo_values, .ref aCo_extras, .ref aCo_ends, .ref aCo_elses, .ref aCo_heights, .ref aCo_targets, .int (iI zCo.labelCount), .ref aCo_labels, .ref aCo_labelTargets])), (aCo_values, .inl (cJ, 2000, .inr (.inl zCo.values))), (aCo_heights, .inl (cI, 2000, .inl (fun k9 => iI (zCt.heights k9)))), (aCo_targets, .inl (cI, 2000, .inl (fun k9 => iI (zCt.targets k9)))), (aCo_labelTargets, .inl (cI, 2000, .inl (fun k9 => iI (zCt.labelTargets k9)))), (aBV, .inr (5, [.ref aWa, .ref aCo, .int (iI zBV.function), .ref aBV_types, .int (iI zBt.height), .ref aBV_openers, .ref aBV_bases, .ref aBV_blockTypes, .ref aBV_labelTypes, .ref aBV_unreachable, .int (iI zBo.openCount), .int (bI zBV.failed)])), (aBV_types, .inl (cI, 2000, .inl (fun k9 => iI (zBt.types k9)))), (aBV_openers, .inl (cI, 101, .inl (fun k9 => iI (zBo.openers k9)))), (aBV_bases, .inl (cI, 101, .inl (fun k9 => iI (zBo.bases k9)))), (aBV_blockTypes, .inl (cI, 101, .inl (fun k9 => iI (zBo.blockTypes k9)))), (aBV_labelTypes, .inl (cI, 101, .inl (fun k9 => iI (zBo.labelTypes k9)))), (aBV_unreachable, .inl (cZ, 101, .inl (fun k9 => bI (zBo.unreachable k9))))] s.heap.size = A at hD hE hNS ⊢
  have hA : ∀ q : Nat, s.heap.size ≤ q → A q := fun q h => by rw [← hAe]; exact Or.inr h
  have hS : va_S A s.heap s.heap [] := va_S.rf
  have hl := lv_entry ([.ref aBV, .int (iI v_op), .int (iI v_at)]) (n := 4) (Nat.le_of_ble_eq_true rfl)
  rw [lg_entry_eq]
  generalize (lg_sl ([.ref aBV, .int (iI v_op), .int (iI v_at)]) ++ List.replicate (4 - (lg_sl ([.ref aBV, .int (iI v_op), .int (iI v_at)])).length) Slot.unset).toArray = ls at hl ⊢
  have hl : lv_has ls 4 [(0, .ref aBV), (1, .int (iI v_op)), (2, .int (iI v_at))] := hl
  unfold f_BV_checkBranch at hf
  refine lv_iload_n hx hb d_BV_checkBranch_0 rfl (lv_at hl 1 rfl) ?_
  refine lv_bipush (v := iI 13) hx hb d_BV_checkBranch_1 (by decide) ?_
  refine jpE hf (fun K_2 hK_2 hf9 => ?_)
  replace hf := hf9
  clear hf9
  have hJK_2 : ∀ (y_1 : KBV × KBt), KBV.Ok y_1.1 ∧ KBt.Ok y_1.2 → K_2 y_1 = R9 → ∀ (H : Heap) (locs : List Loc), (fun w9 => va_P G classes w9 H → va_D A w9 → va_S A s.heap H locs → ∀ (ls : Array Slot), lv_has ls 4 [(0, .ref aBV), (1, .int (iI v_op)), (2, .int (iI v_at))] → W p l e (headSpec (wx y_BV_checkBranch b_BV_checkBranch 4 none) { frames := 1, cells := 0, slots := 0, locals := 22 }).room s m ([.ref aBV, .int (iI v_op), .int (iI v_at)] : List Value).toArray below meth c H locs 0 0 (MX below (XQ G classes A (fun o w1 => ozp R9 (fun x9 => (KCt.Ok x9.1 ∧ KBV.Ok x9.2.1 ∧ KBt.Ok x9.2.2.1 ∧ KBo.Ok x9.2.2.2) ∧ o = .returned none ∧ w1 = [(aCo, .inr (9, [.int (iI zCo.size), .ref aCo_ops, .ref aCo_values, .ref aCo_extras, .ref aCo_ends, .ref aCo_elses, .ref aCo_heights, .ref aCo_targets, .int (iI zCo.labelCount), .ref aCo_labels, .ref aCo_labelTargets])), (aCo_values, .inl (cJ, 2000, .inr (.inl zCo.values))), (aCo_heights, .inl (cI, 2000, .inl (fun k9 => iI (x9.1.heights k9)))), (aCo_targets, .inl (cI, 2000, .inl (fun k9 => iI (x9.1.targets k9)))), (aCo_labelTargets, .inl (cI, 2000, .inl (fun k9 => iI (x9.1.labelTargets k9)))), (aBV, .inr (5, [.ref aWa, .ref aCo, .int (iI x9.2.1.function), .ref aBV_types, .int (iI x9.2.2.1.height), .ref aBV_openers, .ref aBV_bases, .ref aBV_blockTypes, .ref aBV_labelTypes, .ref aBV_unreachable, .int (iI x9.2.2.2.openCount), .int (bI x9.2.1.failed)])), (aBV_types, .inl (cI, 2000, .inl (fun k9 => iI (x9.2.2.1.types k9)))), (aBV_openers, .inl (cI, 101, .inl (fun k9 => iI (x9.2.2.2.openers k9)))), (aBV_bases, .inl (cI, 101, .inl (fun k9 => iI (x9.2.2.2.bases k9)))), (aBV_blockTypes, .inl (cI, 101, .inl (fun k9 => iI (x9.2.2.2.blockTypes k9)))), (aBV_labelTypes, .inl (cI, 101, .inl (fun k9 => iI (x9.2.2.2.labelTypes k9)))), (aBV_unreachable, .inl (cZ, 101, .inl (fun k9 => bI (x9.2.2.2.unreachable k9))))]) (fun _ => False))) ([.ref aBV, .int (iI v_op), .int (iI v_at)] : List Value).toArray s 0 0 A) (F0 m 13 ls [])) [(aCo, .inr (9, [.int (iI zCo.size), .ref aCo_ops, .ref aCo_values, .ref aCo_extras, .ref aCo_ends, .ref aCo_elses, .ref aCo_heights, .ref aCo_targets, .int (iI zCo.labelCount), .ref aCo_labels, .ref aCo_labelTargets])), (aCo_values, .inl (cJ, 2000, .inr (.inl zCo.values))), (aCo_heights, .inl (cI, 2000, .inl (fun k9 => iI (zCt.heights k9)))), (aCo_targets, .inl (cI, 2000, .inl (fun k9 => iI (zCt.targets k9)))), (aCo_labelTargets, .inl (cI, 2000, .inl (fun k9 => iI (zCt.labelTargets k9)))), (aBV, .inr (5, [.ref aWa, .ref aCo, .int (iI y_1.1.function), .ref aBV_types, .int (iI y_1.2.height), .ref aBV_openers, .ref aBV_bases, .ref aBV_blockTypes, .ref aBV_labelTypes, .ref aBV_unreachable, .int (iI zBo.openCount), .int (bI y_1.1.failed)])), (aBV_types, .inl (cI, 2000, .inl (fun k9 => iI (y_1.2.types k9)))), (aBV_openers, .inl (cI, 101, .inl (fun k9 => iI (zBo.openers k9)))), (aBV_bases, .inl (cI, 101, .inl (fun k9 => iI (zBo.bases k9)))), (aBV_blockTypes, .inl (cI, 101, .inl (fun k9 => iI (zBo.blockTypes k9)))), (aBV_labelTypes, .inl (cI, 101, .inl (fun k9 => iI (zBo.labelTypes k9)))), (aBV_unreachable, .inl (cZ, 101, .inl (fun k9 => bI (zBo.unreachable k9))))] := by
    intro y_1 hy_1 hf H_11 locs_11 hP_11 hD_11 hS_11 ls hl
    clear hS hD hP
    replace hf := (congrFun hK_2 y_1).symm.trans hf
    clear hK_2
    refine lv_aload_n hx hb d_BV_checkBranch_13 rfl (lv_at hl 0 rfl) ?_
    refine lv_aload_n hx hb d_BV_checkBranch_14 rfl (lv_at hl 0 rfl) ?_
    refine va_get (D := G) (ci := 5) (v := .ref aCo) (C := R_BV) (T := F_BV) (N := 12) hx hb hts i_BV hown hK hP_11 5 rfl rfl 1 (by decide) (hts _ m_109) (fun _ h9 => h9) rfl d_BV_checkBranch_15 ?_
    refine va_get (D := G) (ci := 9) (v := .ref aCo_values) (C := R_Co) (T := F_Co) (N := 11) hx hb hts i_Co hown hK hP_11 0 rfl rfl 2 (by decide) (hts _ m_264) (fun _ h9 => h9) rfl d_BV_checkBranch_18 ?_
    refine lv_iload_n hx hb d_BV_checkBranch_21 rfl (lv_at hl 2 rfl) ?_
    replace hf := grd hnb hf
    obtain ⟨g_3, hf⟩ := hf
    refine va_lald hx hb hK hP_11 1 2 rfl rfl (vp_in_iI hv_at g_3) d_BV_checkBranch_22 ?_
    refine W.eq (g2 := F0 m 23 ls [.long (zCo.values v_at.toNat), .ref aBV]) (by rw [iI_clamp hv_at] <;> rfl) ?_
    replace hf := obE hnb hf
    obtain ⟨x_4, e_5, hf⟩ := hf
    refine xx_callV (wc := [(aBV, .inr (5, [.ref aWa, .ref aCo, .int (iI y_1.1.function), .ref aBV_types, .int (iI y_1.2.height), .ref aBV_openers, .ref aBV_bases, .ref aBV_blockTypes, .ref aBV_labelTypes, .ref aBV_unreachable, .int (iI zBo.openCount), .int (bI y_1.1.failed)]))]) (wr := [(aCo, .inr (9, [.int (iI zCo.size), .ref aCo_ops, .ref aCo_values, .ref aCo_extras, .ref aCo_ends, .ref aCo_elses, .ref aCo_heights, .ref aCo_targets, .int (iI zCo.labelCount), .ref aCo_labels, .ref aCo_labelTargets])), (aCo_values, .inl (cJ, 2000, .inr (.inl zCo.values))), (aCo_heights, .inl (cI, 2000, .inl (fun k9 => iI (zCt.heights k9)))), (aCo_targets, .inl (cI, 2000, .inl (fun k9 => iI (zCt.targets k9)))), (aCo_labelTargets, .inl (cI, 2000, .inl (fun k9 => iI (zCt.labelTargets k9)))), (aBV_types, .inl (cI, 2000, .inl (fun k9 => iI (y_1.2.types k9)))), (aBV_openers, .inl (cI, 101, .inl (fun k9 => iI (zBo.openers k9)))), (aBV_bases, .inl (cI, 101, .inl (fun k9 => iI (zBo.bases k9)))), (aBV_blockTypes, .inl (cI, 101, .inl (fun k9 => iI (zBo.blockTypes k9)))), (aBV_labelTypes, .inl (cI, 101, .inl (fun k9 => iI (zBo.labelTypes k9)))), (aBV_unreachable, .inl (cZ, 101, .inl (fun k9 => bI (zBo.unreachable k9))))]) (As := [.long (zCo.values v_at.toNat)]) (rest := []) ⟨hx, hb, hml, hown, hts⟩ xE_st hK hE hA (k_BV_levelOf l htr G cB cI cJ cZ cG aBV aWa aCo aBV_types aBV_openers aBV_bases aBV_blockTypes aBV_labelTypes aBV_unreachable y_1.1 y_1.2 zBo hy_1.1 hy_1.2 hzBo (zCo.values v_at.toNat) (.ret x_4) e_5 ret_nb _) (xw_V 1 hts m_816 m_818 ms_BV_levelOf m_6 m_819 (by decide +kernel) ⟨(Nat.le_of_ble_eq_true rfl), (Nat.le_of_ble_eq_true rfl)⟩) hP_11 hD_11 hS_11 [5] [0, 1, 2, 3, 4, 6, 7, 8, 9, 10, 11] rfl rfl (by decide +kernel) (by decide +kernel) (by decide +kernel) 0 5 rfl rfl rfl rfl hl.1 rfl (Nat.le_of_ble_eq_true rfl) d_BV_checkBranch_23 ⟨(Nat.le_of_ble_eq_true rfl), (Nat.le_of_ble_eq_true rfl)⟩ (fun v9 w9 H_12 locs_12 hp hP_12 hD_12 hS_12 => ?_) (fun x9 w9 H9 l9 hp _ _ _ => absurd hp (fun q9 => by obtain ⟨-, ho, -⟩ := q9; cases ho))
    clear hS_11 hD_11 hP_11
    obtain ⟨hx_4, ho, rfl⟩ := hp
    cases ho
    have hQ9 : (fun w9 => va_P G classes w9 H_12 ∧ va_D A w9) [(aCo, .inr (9, [.int (iI zCo.size), .ref aCo_ops, .ref aCo_values, .ref aCo_extras, .ref aCo_ends, .ref aCo_elses, .ref aCo_heights, .ref aCo_targets, .int (iI zCo.labelCount), .ref aCo_labels, .ref aCo_labelTargets])), (aCo_values, .inl (cJ, 2000, .inr (.inl zCo.values))), (aCo_heights, .inl (cI, 2000, .inl (fun k9 => iI (zCt.heights k9)))), (aCo_targets, .inl (cI, 2000, .inl (fun k9 => iI (zCt.targets k9)))), (aCo_labelTargets, .inl (cI, 2000, .inl (fun k9 => iI (zCt.labelTargets k9)))), (aBV_types, .inl (cI, 2000, .inl (fun k9 => iI (y_1.2.types k9)))), (aBV_openers, .inl (cI, 101, .inl (fun k9 => iI (zBo.openers k9)))), (aBV_bases, .inl (cI, 101, .inl (fun k9 => iI (zBo.bases k9)))), (aBV_blockTypes, .inl (cI, 101, .inl (fun k9 => iI (zBo.blockTypes k9)))), (aBV_labelTypes, .inl (cI, 101, .inl (fun k9 => iI (zBo.labelTypes k9)))), (aBV_unreachable, .inl (cZ, 101, .inl (fun k9 => bI (zBo.unreachable k9)))), (aBV, .inr (5, [.ref aWa, .ref aCo, .int (iI y_1.1.function), .ref aBV_types, .int (iI y_1.2.height), .ref aBV_openers, .ref aBV_bases, .ref aBV_blockTypes, .ref aBV_labelTypes, .ref aBV_unreachable, .int (iI zBo.openCount), .int (bI y_1.1.failed)]))] := ⟨hP_12, hD_12⟩
    clear hP_12 hD_12
    obtain ⟨hP_12, hD_12⟩ := hQ9
    refine lv_istore_n (lv' := [(3, .int (iI x_4)), (0, .ref aBV), (1, .int (iI v_op)), (2, .int (iI v_at))]) hx hb d_BV_checkBranch_26 rfl hl (by decide) rfl (fun ls hl => ?_)
    refine lv_iload_n hx hb d_BV_checkBranch_27 rfl (lv_at hl 0 rfl) ?_
    refine lv_if_ge (tgt := 37) hx hb d_BV_checkBranch_28 (by decide) (fun c_6 => ?_) (fun c_6 => ?_)
    · have c_6 := ((zv_le zero_v (iI_t hx_4))).mp c_6
      replace hf := ifp c_6 hf
      refine lv_aload_n hx hb d_BV_checkBranch_37 rfl (lv_at hl 1 rfl) ?_
      refine va_get (D := G) (ci := 5) (v := .ref aCo) (C := R_BV) (T := F_BV) (N := 12) hx hb hts i_BV hown hK hP_12 11 rfl rfl 1 (by decide) (hts _ m_109) (fun _ h9 => h9) rfl d_BV_checkBranch_38 ?_
      refine va_get (D := G) (ci := 9) (v := .ref aCo_targets) (C := R_Co) (T := F_Co) (N := 11) hx hb hts i_Co hown hK hP_12 0 rfl rfl 7 (by decide) (hts _ m_283) (fun _ h9 => h9) rfl d_BV_checkBranch_41 ?_
      refine lv_iload_n hx hb d_BV_checkBranch_44 rfl (lv_at hl 3 rfl) ?_
      refine lv_aload_n hx hb d_BV_checkBranch_45 rfl (lv_at hl 1 rfl) ?_
      refine va_get (D := G) (ci := 5) (v := .ref aBV_openers) (C := R_BV) (T := F_BV) (N := 12) hx hb hts i_BV hown hK hP_12 11 rfl rfl 5 (by decide) (hts _ m_113) (fun _ h9 => h9) rfl d_BV_checkBranch_46 ?_
      refine lv_iload_n hx hb d_BV_checkBranch_49 rfl (lv_at hl 0 rfl) ?_
      replace hf := grd hnb hf
      obtain ⟨g_7, hf⟩ := hf
      refine va_iald hx hb hK hP_12 6 1 rfl rfl (vp_in_iI hx_4 g_7) d_BV_checkBranch_50 ?_
      refine W.eq (g2 := F0 m 51 ls [.int (iI (zBo.openers x_4.toNat)), .int (iI v_at), .ref aCo_targets]) (by rw [iI_clamp hx_4] <;> rfl) ?_
      replace hf := grd hnb hf
      obtain ⟨g_8, hf⟩ := hf
      refine va_iast hx hb hK hP_12 hD_12 hS_12 3 1 rfl rfl (vp_in_iI hv_at g_8) d_BV_checkBranch_51 (fun H_13 locs_13 hP_13 hD_13 hS_13 => ?_)
      clear hS_12 hD_12 hP_12
      rw [iI_clamp hv_at, upd_iI] at hP_13 hD_13
      have hQ9 : (fun w9 => va_P G classes w9 H_13 ∧ va_D A w9) [(aCo, .inr (9, [.int (iI zCo.size), .ref aCo_ops, .ref aCo_values, .ref aCo_extras, .ref aCo_ends, .ref aCo_elses, .ref aCo_heights, .ref aCo_targets, .int (iI zCo.labelCount), .ref aCo_labels, .ref aCo_labelTargets])), (aCo_values, .inl (cJ, 2000, .inr (.inl zCo.values))), (aCo_heights, .inl (cI, 2000, .inl (fun k9 => iI (zCt.heights k9)))), (aCo_targets, .inl (cI, 2000, .inl (fun k9 => iI ((updZ zCt.targets v_at.toNat (zBo.openers x_4.toNat)) k9)))), (aCo_labelTargets, .inl (cI, 2000, .inl (fun k9 => iI (zCt.labelTargets k9)))), (aBV_types, .inl (cI, 2000, .inl (fun k9 => iI (y_1.2.types k9)))), (aBV_openers, .inl (cI, 101, .inl (fun k9 => iI (zBo.openers k9)))), (aBV_bases, .inl (cI, 101, .inl (fun k9 => iI (zBo.bases k9)))), (aBV_blockTypes, .inl (cI, 101, .inl (fun k9 => iI (zBo.blockTypes k9)))), (aBV_labelTypes, .inl (cI, 101, .inl (fun k9 => iI (zBo.labelTypes k9)))), (aBV_unreachable, .inl (cZ, 101, .inl (fun k9 => bI (zBo.unreachable k9)))), (aBV, .inr (5, [.ref aWa, .ref aCo, .int (iI y_1.1.function), .ref aBV_types, .int (iI y_1.2.height), .ref aBV_openers, .ref aBV_bases, .ref aBV_blockTypes, .ref aBV_labelTypes, .ref aBV_unreachable, .int (iI zBo.openCount), .int (bI y_1.1.failed)]))] := ⟨hP_13, hD_13⟩
      clear hP_13 hD_13
      obtain ⟨hP_13, hD_13⟩ := hQ9
      refine lv_aload_n hx hb d_BV_checkBranch_52 rfl (lv_at hl 1 rfl) ?_
      refine lv_aload_n hx hb d_BV_checkBranch_53 rfl (lv_at hl 1 rfl) ?_
      refine va_get (D := G) (ci := 5) (v := .ref aBV_labelTypes) (C := R_BV) (T := F_BV) (N := 12) hx hb hts i_BV hown hK hP_13 11 rfl rfl 8 (by decide) (hts _ m_116) (fun _ h9 => h9) rfl d_BV_checkBranch_54 ?_
      refine lv_iload_n hx hb d_BV_checkBranch_57 rfl (lv_at hl 0 rfl) ?_
      replace hf := grd hnb hf
      obtain ⟨g_9, hf⟩ := hf
      refine va_iald hx hb hK hP_13 9 1 rfl rfl (vp_in_iI hx_4 g_9) d_BV_checkBranch_58 ?_
      refine W.eq (g2 := F0 m 59 ls [.int (iI (zBo.labelTypes x_4.toNat)), .ref aBV]) (by rw [iI_clamp hx_4] <;> rfl) ?_
      replace hf := obE hnb hf
      obtain ⟨x_10, e_11, hf⟩ := hf
      refine xx_callV (wc := [(aBV, .inr (5, [.ref aWa, .ref aCo, .int (iI y_1.1.function), .ref aBV_types, .int (iI y_1.2.height), .ref aBV_openers, .ref aBV_bases, .ref aBV_blockTypes, .ref aBV_labelTypes, .ref aBV_unreachable, .int (iI zBo.openCount), .int (bI y_1.1.failed)])), (aBV_types, .inl (cI, 2000, .inl (fun k9 => iI (y_1.2.types k9)))), (aBV_bases, .inl (cI, 101, .inl (fun k9 => iI (zBo.bases k9)))), (aBV_unreachable, .inl (cZ, 101, .inl (fun k9 => bI (zBo.unreachable k9))))]) (wr := [(aCo, .inr (9, [.int (iI zCo.size), .ref aCo_ops, .ref aCo_values, .ref aCo_extras, .ref aCo_ends, .ref aCo_elses, .ref aCo_heights, .ref aCo_targets, .int (iI zCo.labelCount), .ref aCo_labels, .ref aCo_labelTargets])), (aCo_values, .inl (cJ, 2000, .inr (.inl zCo.values))), (aCo_heights, .inl (cI, 2000, .inl (fun k9 => iI (zCt.heights k9)))), (aCo_targets, .inl (cI, 2000, .inl (fun k9 => iI ((updZ zCt.targets v_at.toNat (zBo.openers x_4.toNat)) k9)))), (aCo_labelTargets, .inl (cI, 2000, .inl (fun k9 => iI (zCt.labelTargets k9)))), (aBV_openers, .inl (cI, 101, .inl (fun k9 => iI (zBo.openers k9)))), (aBV_blockTypes, .inl (cI, 101, .inl (fun k9 => iI (zBo.blockTypes k9)))), (aBV_labelTypes, .inl (cI, 101, .inl (fun k9 => iI (zBo.labelTypes k9))))]) (As := [.int (iI (zBo.labelTypes x_4.toNat))]) (rest := []) ⟨hx, hb, hml, hown, hts⟩ xE_st hK hE hA (k_BV_pop l htr G cB cI cJ cZ cG aBV aWa aCo aBV_types aBV_openers aBV_bases aBV_blockTypes aBV_labelTypes aBV_unreachable y_1.1 y_1.2 zBo hy_1.1 hy_1.2 hzBo (zBo.labelTypes x_4.toNat) (hzBo.labelTypes _) (.ret x_10) e_11 ret_nb _) (xw_V 1 hts m_804 m_806 ms_BV_pop m_6 m_807 (by decide +kernel) ⟨(Nat.le_of_ble_eq_true rfl), (Nat.le_of_ble_eq_true rfl)⟩) hP_13 hD_13 hS_13 [11, 5, 7, 10] [0, 1, 2, 3, 4, 6, 8, 9] rfl rfl (by decide +kernel) (by decide +kernel) (by decide +kernel) 0 5 rfl rfl rfl rfl hl.1 rfl (Nat.le_of_ble_eq_true rfl) d_BV_checkBranch_59 ⟨(Nat.le_of_ble_eq_true rfl), (Nat.le_of_ble_eq_true rfl)⟩ (fun v9 w9 H_14 locs_14 hp hP_14 hD_14 hS_14 => ?_) (fun x9 w9 H9 l9 hp _ _ _ => absurd hp (fun q9 => by obtain ⟨-, ho, -⟩ := q9; cases ho))
      clear hS_13 hD_13 hP_13
      obtain ⟨hx_10, ho, rfl⟩ := hp
      cases ho
      have hQ9 : (fun w9 => va_P G classes w9 H_14 ∧ va_D A w9) [(aCo, .inr (9, [.int (iI zCo.size), .ref aCo_ops, .ref aCo_values, .ref aCo_extras, .ref aCo_ends, .ref aCo_elses, .ref aCo_heights, .ref aCo_targets, .int (iI zCo.labelCount), .ref aCo_labels, .ref aCo_labelTargets])), (aCo_values, .inl (cJ, 2000, .inr (.inl zCo.values))), (aCo_heights, .inl (cI, 2000, .inl (fun k9 => iI (zCt.heights k9)))), (aCo_targets, .inl (cI, 2000, .inl (fun k9 => iI ((updZ zCt.targets v_at.toNat (zBo.openers x_4.toNat)) k9)))), (aCo_labelTargets, .inl (cI, 2000, .inl (fun k9 => iI (zCt.labelTargets k9)))), (aBV_openers, .inl (cI, 101, .inl (fun k9 => iI (zBo.openers k9)))), (aBV_blockTypes, .inl (cI, 101, .inl (fun k9 => iI (zBo.blockTypes k9)))), (aBV_labelTypes, .inl (cI, 101, .inl (fun k9 => iI (zBo.labelTypes k9)))), (aBV, .inr (5, [.ref aWa, .ref aCo, .int (iI x_10.1.function), .ref aBV_types, .int (iI x_10.2.1.height), .ref aBV_openers, .ref aBV_bases, .ref aBV_blockTypes, .ref aBV_labelTypes, .ref aBV_unreachable, .int (iI zBo.openCount), .int (bI x_10.1.failed)])), (aBV_types, .inl (cI, 2000, .inl (fun k9 => iI (x_10.2.1.types k9)))), (aBV_bases, .inl (cI, 101, .inl (fun k9 => iI (zBo.bases k9)))), (aBV_unreachable, .inl (cZ, 101, .inl (fun k9 => bI (zBo.unreachable k9))))] := ⟨hP_14, hD_14⟩
      clear hP_14 hD_14
      obtain ⟨hP_14, hD_14⟩ := hQ9
      refine lv_pop hx hb d_BV_checkBranch_62 rfl ?_
      refine lv_iload_n hx hb d_BV_checkBranch_63 rfl (lv_at hl 2 rfl) ?_
      refine lv_bipush (v := iI 13) hx hb d_BV_checkBranch_64 (by decide) ?_
      refine jpE hf (fun K_13 hK_13 hf9 => ?_)
      replace hf := hf9
      clear hf9
      have hJK_13 : ∀ (y_12 : KBV × KBt × KBo), KBV.Ok y_12.1 ∧ KBt.Ok y_12.2.1 ∧ KBo.Ok y_12.2.2 → K_13 y_12 = R9 → ∀ (H_14 : Heap) (locs_14 : List Loc), (fun w9 => va_P G classes w9 H_14 → va_D A w9 → va_S A s.heap H_14 locs_14 → ∀ (ls : Array Slot), lv_has ls 4 [(0, .ref aBV), (1, .int (iI v_op)), (2, .int (iI v_at)), (3, .int (iI x_4))] → W p l e (headSpec (wx y_BV_checkBranch b_BV_checkBranch 4 none) { frames := 1, cells := 0, slots := 0, locals := 22 }).room s m ([.ref aBV, .int (iI v_op), .int (iI v_at)] : List Value).toArray below meth c H_14 locs_14 0 0 (MX below (XQ G classes A (fun o w1 => ozp R9 (fun x9 => (KCt.Ok x9.1 ∧ KBV.Ok x9.2.1 ∧ KBt.Ok x9.2.2.1 ∧ KBo.Ok x9.2.2.2) ∧ o = .returned none ∧ w1 = [(aCo, .inr (9, [.int (iI zCo.size), .ref aCo_ops, .ref aCo_values, .ref aCo_extras, .ref aCo_ends, .ref aCo_elses, .ref aCo_heights, .ref aCo_targets, .int (iI zCo.labelCount), .ref aCo_labels, .ref aCo_labelTargets])), (aCo_values, .inl (cJ, 2000, .inr (.inl zCo.values))), (aCo_heights, .inl (cI, 2000, .inl (fun k9 => iI (x9.1.heights k9)))), (aCo_targets, .inl (cI, 2000, .inl (fun k9 => iI (x9.1.targets k9)))), (aCo_labelTargets, .inl (cI, 2000, .inl (fun k9 => iI (x9.1.labelTargets k9)))), (aBV, .inr (5, [.ref aWa, .ref aCo, .int (iI x9.2.1.function), .ref aBV_types, .int (iI x9.2.2.1.height), .ref aBV_openers, .ref aBV_bases, .ref aBV_blockTypes, .ref aBV_labelTypes, .ref aBV_unreachable, .int (iI x9.2.2.2.openCount), .int (bI x9.2.1.failed)])), (aBV_types, .inl (cI, 2000, .inl (fun k9 => iI (x9.2.2.1.types k9)))), (aBV_openers, .inl (cI, 101, .inl (fun k9 => iI (x9.2.2.2.openers k9)))), (aBV_bases, .inl (cI, 101, .inl (fun k9 => iI (x9.2.2.2.bases k9)))), (aBV_blockTypes, .inl (cI, 101, .inl (fun k9 => iI (x9.2.2.2.blockTypes k9)))), (aBV_labelTypes, .inl (cI, 101, .inl (fun k9 => iI (x9.2.2.2.labelTypes k9)))), (aBV_unreachable, .inl (cZ, 101, .inl (fun k9 => bI (x9.2.2.2.unreachable k9))))]) (fun _ => False))) ([.ref aBV, .int (iI v_op), .int (iI v_at)] : List Value).toArray s 0 0 A) (F0 m 86 ls [])) [(aCo, .inr (9, [.int (iI zCo.size), .ref aCo_ops, .ref aCo_values, .ref aCo_extras, .ref aCo_ends, .ref aCo_elses, .ref aCo_heights, .ref aCo_targets, .int (iI zCo.labelCount), .ref aCo_labels, .ref aCo_labelTargets])), (aCo_values, .inl (cJ, 2000, .inr (.inl zCo.values))), (aCo_heights, .inl (cI, 2000, .inl (fun k9 => iI (zCt.heights k9)))), (aCo_targets, .inl (cI, 2000, .inl (fun k9 => iI ((updZ zCt.targets v_at.toNat (zBo.openers x_4.toNat)) k9)))), (aCo_labelTargets, .inl (cI, 2000, .inl (fun k9 => iI (zCt.labelTargets k9)))), (aBV_openers, .inl (cI, 101, .inl (fun k9 => iI (y_12.2.2.openers k9)))), (aBV_blockTypes, .inl (cI, 101, .inl (fun k9 => iI (y_12.2.2.blockTypes k9)))), (aBV_labelTypes, .inl (cI, 101, .inl (fun k9 => iI (y_12.2.2.labelTypes k9)))), (aBV, .inr (5, [.ref aWa, .ref aCo, .int (iI y_12.1.function), .ref aBV_types, .int (iI y_12.2.1.height), .ref aBV_openers, .ref aBV_bases, .ref aBV_blockTypes, .ref aBV_labelTypes, .ref aBV_unreachable, .int (iI y_12.2.2.openCount), .int (bI y_12.1.failed)])), (aBV_types, .inl (cI, 2000, .inl (fun k9 => iI (y_12.2.1.types k9)))), (aBV_bases, .inl (cI, 101, .inl (fun k9 => iI (y_12.2.2.bases k9)))), (aBV_unreachable, .inl (cZ, 101, .inl (fun k9 => bI (y_12.2.2.unreachable k9))))] := by
        intro y_12 hy_12 hf H_17 locs_17 hP_17 hD_17 hS_17 ls hl
        clear hS_14 hD_14 hP_14
        replace hf := (congrFun hK_13 y_12).symm.trans hf
        clear hK_13
        have hP_17 := hP_17.sub (ws' := [(aCo, .inr (9, [.int (iI zCo.size), .ref aCo_ops, .ref aCo_values, .ref aCo_extras, .ref aCo_ends, .ref aCo_elses, .ref aCo_heights, .ref aCo_targets, .int (iI zCo.labelCount), .ref aCo_labels, .ref aCo_labelTargets])), (aCo_values, .inl (cJ, 2000, .inr (.inl zCo.values))), (aCo_heights, .inl (cI, 2000, .inl (fun k9 => iI (zCt.heights k9)))), (aCo_targets, .inl (cI, 2000, .inl (fun k9 => iI ((updZ zCt.targets v_at.toNat (zBo.openers x_4.toNat)) k9)))), (aCo_labelTargets, .inl (cI, 2000, .inl (fun k9 => iI (zCt.labelTargets k9)))), (aBV, .inr (5, [.ref aWa, .ref aCo, .int (iI y_12.1.function), .ref aBV_types, .int (iI y_12.2.1.height), .ref aBV_openers, .ref aBV_bases, .ref aBV_blockTypes, .ref aBV_labelTypes, .ref aBV_unreachable, .int (iI y_12.2.2.openCount), .int (bI y_12.1.failed)])), (aBV_types, .inl (cI, 2000, .inl (fun k9 => iI (y_12.2.1.types k9)))), (aBV_openers, .inl (cI, 101, .inl (fun k9 => iI (y_12.2.2.openers k9)))), (aBV_bases, .inl (cI, 101, .inl (fun k9 => iI (y_12.2.2.bases k9)))), (aBV_blockTypes, .inl (cI, 101, .inl (fun k9 => iI (y_12.2.2.blockTypes k9)))), (aBV_labelTypes, .inl (cI, 101, .inl (fun k9 => iI (y_12.2.2.labelTypes k9)))), (aBV_unreachable, .inl (cZ, 101, .inl (fun k9 => bI (y_12.2.2.unreachable k9))))]) [0, 1, 2, 3, 4, 8, 9, 5, 10, 6, 7, 11] rfl
        have hD_17 := hD_17.sub (ws' := [(aCo, .inr (9, [.int (iI zCo.size), .ref aCo_ops, .ref aCo_values, .ref aCo_extras, .ref aCo_ends, .ref aCo_elses, .ref aCo_heights, .ref aCo_targets, .int (iI zCo.labelCount), .ref aCo_labels, .ref aCo_labelTargets])), (aCo_values, .inl (cJ, 2000, .inr (.inl zCo.values))), (aCo_heights, .inl (cI, 2000, .inl (fun k9 => iI (zCt.heights k9)))), (aCo_targets, .inl (cI, 2000, .inl (fun k9 => iI ((updZ zCt.targets v_at.toNat (zBo.openers x_4.toNat)) k9)))), (aCo_labelTargets, .inl (cI, 2000, .inl (fun k9 => iI (zCt.labelTargets k9)))), (aBV, .inr (5, [.ref aWa, .ref aCo, .int (iI y_12.1.function), .ref aBV_types, .int (iI y_12.2.1.height), .ref aBV_openers, .ref aBV_bases, .ref aBV_blockTypes, .ref aBV_labelTypes, .ref aBV_unreachable, .int (iI y_12.2.2.openCount), .int (bI y_12.1.failed)])), (aBV_types, .inl (cI, 2000, .inl (fun k9 => iI (y_12.2.1.types k9)))), (aBV_openers, .inl (cI, 101, .inl (fun k9 => iI (y_12.2.2.openers k9)))), (aBV_bases, .inl (cI, 101, .inl (fun k9 => iI (y_12.2.2.bases k9)))), (aBV_blockTypes, .inl (cI, 101, .inl (fun k9 => iI (y_12.2.2.blockTypes k9)))), (aBV_labelTypes, .inl (cI, 101, .inl (fun k9 => iI (y_12.2.2.labelTypes k9)))), (aBV_unreachable, .inl (cZ, 101, .inl (fun k9 => bI (y_12.2.2.unreachable k9))))]) [0, 1, 2, 3, 4, 8, 9, 5, 10, 6, 7, 11] (by decide +kernel) rfl
        exact ex_W (fun _ h => ex_mq h) (W.vret hx hb hr (fun t ht hW => ⟨⟨_, ozr hf ⟨⟨(KCt.Ok.mk hzCt.heights (updZ_ok hzCt.targets (hzBo.openers _)) hzCt.labelTargets : KCt.Ok (KCt.mk zCt.heights (updZ zCt.targets v_at.toNat (zBo.openers x_4.toNat)) zCt.labelTargets)), hy_12.1, hy_12.2.1, hy_12.2.2⟩, rfl, rfl⟩, by rw [ht]; exact hP_17, hD_17⟩, hS_17.F ht⟩) hS_17.2.2 d_BV_checkBranch_86)
      clear hK_13
      refine lv_icmp_ne (tgt := 82) hx hb d_BV_checkBranch_66 (by decide) (fun c_14 => ?_) (fun c_14 => ?_)
      · have c_14 := (fun q9 => c_14 (((zv_eq (iI_t hv_op) (iI_t (show R32 (13) by decide)))).mpr q9))
        replace hf := ifn c_14 hf
        refine lv_aload_n hx hb d_BV_checkBranch_82 rfl (lv_at hl 1 rfl) ?_
        replace hf := obE hnb hf
        obtain ⟨x_15, e_16, hf⟩ := hf
        refine xx_callV (wc := [(aBV, .inr (5, [.ref aWa, .ref aCo, .int (iI x_10.1.function), .ref aBV_types, .int (iI x_10.2.1.height), .ref aBV_openers, .ref aBV_bases, .ref aBV_blockTypes, .ref aBV_labelTypes, .ref aBV_unreachable, .int (iI zBo.openCount), .int (bI x_10.1.failed)])), (aBV_types, .inl (cI, 2000, .inl (fun k9 => iI (x_10.2.1.types k9)))), (aBV_openers, .inl (cI, 101, .inl (fun k9 => iI (zBo.openers k9)))), (aBV_bases, .inl (cI, 101, .inl (fun k9 => iI (zBo.bases k9)))), (aBV_blockTypes, .inl (cI, 101, .inl (fun k9 => iI (zBo.blockTypes k9)))), (aBV_labelTypes, .inl (cI, 101, .inl (fun k9 => iI (zBo.labelTypes k9)))), (aBV_unreachable, .inl (cZ, 101, .inl (fun k9 => bI (zBo.unreachable k9))))]) (wr := [(aCo, .inr (9, [.int (iI zCo.size), .ref aCo_ops, .ref aCo_values, .ref aCo_extras, .ref aCo_ends, .ref aCo_elses, .ref aCo_heights, .ref aCo_targets, .int (iI zCo.labelCount), .ref aCo_labels, .ref aCo_labelTargets])), (aCo_values, .inl (cJ, 2000, .inr (.inl zCo.values))), (aCo_heights, .inl (cI, 2000, .inl (fun k9 => iI (zCt.heights k9)))), (aCo_targets, .inl (cI, 2000, .inl (fun k9 => iI ((updZ zCt.targets v_at.toNat (zBo.openers x_4.toNat)) k9)))), (aCo_labelTargets, .inl (cI, 2000, .inl (fun k9 => iI (zCt.labelTargets k9))))]) (As := []) (rest := []) ⟨hx, hb, hml, hown, hts⟩ xE_st hK hE hA (k_BV_becomeUnreachable l htr G cB cI cJ cZ cG aBV aWa aCo aBV_types aBV_openers aBV_bases aBV_blockTypes aBV_labelTypes aBV_unreachable x_10.1 x_10.2.1 zBo hx_10.1 hx_10.2.1 hzBo (.ret x_15) e_16 ret_nb _) (xw_V 0 hts m_800 m_802 ms_BV_becomeUnreachable m_6 m_803 (by decide +kernel) ⟨(Nat.le_of_ble_eq_true rfl), (Nat.le_of_ble_eq_true rfl)⟩) hP_14 hD_14 hS_14 [8, 9, 5, 10, 6, 7, 11] [0, 1, 2, 3, 4] rfl rfl (by decide +kernel) (by decide +kernel) (by decide +kernel) 0 5 rfl rfl rfl rfl hl.1 rfl (Nat.le_of_ble_eq_true rfl) d_BV_checkBranch_83 ⟨(Nat.le_of_ble_eq_true rfl), (Nat.le_of_ble_eq_true rfl)⟩ (fun v9 w9 H_18 locs_18 hp hP_18 hD_18 hS_18 => ?_) (fun x9 w9 H9 l9 hp _ _ _ => absurd hp (fun q9 => by obtain ⟨-, ho, -⟩ := q9; cases ho))
        clear hS_14 hD_14 hP_14
        obtain ⟨hx_15, ho, rfl⟩ := hp
        cases ho
        have hQ9 : (fun w9 => va_P G classes w9 H_18 ∧ va_D A w9) [(aCo, .inr (9, [.int (iI zCo.size), .ref aCo_ops, .ref aCo_values, .ref aCo_extras, .ref aCo_ends, .ref aCo_elses, .ref aCo_heights, .ref aCo_targets, .int (iI zCo.labelCount), .ref aCo_labels, .ref aCo_labelTargets])), (aCo_values, .inl (cJ, 2000, .inr (.inl zCo.values))), (aCo_heights, .inl (cI, 2000, .inl (fun k9 => iI (zCt.heights k9)))), (aCo_targets, .inl (cI, 2000, .inl (fun k9 => iI ((updZ zCt.targets v_at.toNat (zBo.openers x_4.toNat)) k9)))), (aCo_labelTargets, .inl (cI, 2000, .inl (fun k9 => iI (zCt.labelTargets k9)))), (aBV, .inr (5, [.ref aWa, .ref aCo, .int (iI x_10.1.function), .ref aBV_types, .int (iI x_15.1.height), .ref aBV_openers, .ref aBV_bases, .ref aBV_blockTypes, .ref aBV_labelTypes, .ref aBV_unreachable, .int (iI x_15.2.openCount), .int (bI x_10.1.failed)])), (aBV_types, .inl (cI, 2000, .inl (fun k9 => iI (x_15.1.types k9)))), (aBV_openers, .inl (cI, 101, .inl (fun k9 => iI (x_15.2.openers k9)))), (aBV_bases, .inl (cI, 101, .inl (fun k9 => iI (x_15.2.bases k9)))), (aBV_blockTypes, .inl (cI, 101, .inl (fun k9 => iI (x_15.2.blockTypes k9)))), (aBV_labelTypes, .inl (cI, 101, .inl (fun k9 => iI (x_15.2.labelTypes k9)))), (aBV_unreachable, .inl (cZ, 101, .inl (fun k9 => bI (x_15.2.unreachable k9))))] := ⟨hP_18, hD_18⟩
        clear hP_18 hD_18
        obtain ⟨hP_18, hD_18⟩ := hQ9
        exact hJK_13 (x_10.1, x_15.1, x_15.2) ⟨hx_10.1, hx_15.1, hx_15.2⟩ hf _ _ (hP_18.sub [0, 1, 2, 3, 4, 7, 9, 10, 5, 6, 8, 11] rfl) (hD_18.sub [0, 1, 2, 3, 4, 7, 9, 10, 5, 6, 8, 11] (by decide +kernel) rfl) hS_18 _ (lv_sub hl [1, 2, 3, 0] rfl)
      · have c_14 := ((zv_eq (iI_t hv_op) (iI_t (show R32 (13) by decide)))).mp c_14
        replace hf := ifp c_14 hf
        refine lv_aload_n hx hb d_BV_checkBranch_69 rfl (lv_at hl 1 rfl) ?_
        refine lv_aload_n hx hb d_BV_checkBranch_70 rfl (lv_at hl 1 rfl) ?_
        refine va_get (D := G) (ci := 5) (v := .ref aBV_labelTypes) (C := R_BV) (T := F_BV) (N := 12) hx hb hts i_BV hown hK hP_14 8 rfl rfl 8 (by decide) (hts _ m_116) (fun _ h9 => h9) rfl d_BV_checkBranch_71 ?_
        refine lv_iload_n hx hb d_BV_checkBranch_74 rfl (lv_at hl 0 rfl) ?_
        replace hf := grd hnb hf
        obtain ⟨g_17, hf⟩ := hf
        refine va_iald hx hb hK hP_14 7 1 rfl rfl (vp_in_iI hx_4 g_17) d_BV_checkBranch_75 ?_
        refine W.eq (g2 := F0 m 76 ls [.int (iI (zBo.labelTypes x_4.toNat)), .ref aBV]) (by rw [iI_clamp hx_4] <;> rfl) ?_
        replace hf := obE hnb hf
        obtain ⟨x_18, e_19, hf⟩ := hf
        refine xx_callV (wc := [(aBV, .inr (5, [.ref aWa, .ref aCo, .int (iI x_10.1.function), .ref aBV_types, .int (iI x_10.2.1.height), .ref aBV_openers, .ref aBV_bases, .ref aBV_blockTypes, .ref aBV_labelTypes, .ref aBV_unreachable, .int (iI zBo.openCount), .int (bI x_10.1.failed)])), (aBV_types, .inl (cI, 2000, .inl (fun k9 => iI (x_10.2.1.types k9))))]) (wr := [(aCo, .inr (9, [.int (iI zCo.size), .ref aCo_ops, .ref aCo_values, .ref aCo_extras, .ref aCo_ends, .ref aCo_elses, .ref aCo_heights, .ref aCo_targets, .int (iI zCo.labelCount), .ref aCo_labels, .ref aCo_labelTargets])), (aCo_values, .inl (cJ, 2000, .inr (.inl zCo.values))), (aCo_heights, .inl (cI, 2000, .inl (fun k9 => iI (zCt.heights k9)))), (aCo_targets, .inl (cI, 2000, .inl (fun k9 => iI ((updZ zCt.targets v_at.toNat (zBo.openers x_4.toNat)) k9)))), (aCo_labelTargets, .inl (cI, 2000, .inl (fun k9 => iI (zCt.labelTargets k9)))), (aBV_openers, .inl (cI, 101, .inl (fun k9 => iI (zBo.openers k9)))), (aBV_blockTypes, .inl (cI, 101, .inl (fun k9 => iI (zBo.blockTypes k9)))), (aBV_labelTypes, .inl (cI, 101, .inl (fun k9 => iI (zBo.labelTypes k9)))), (aBV_bases, .inl (cI, 101, .inl (fun k9 => iI (zBo.bases k9)))), (aBV_unreachable, .inl (cZ, 101, .inl (fun k9 => bI (zBo.unreachable k9))))]) (As := [.int (iI (zBo.labelTypes x_4.toNat))]) (rest := []) ⟨hx, hb, hml, hown, hts⟩ xE_st hK hE hA (k_BV_push l htr G cB cI cJ cZ cG aBV aWa aCo aBV_types aBV_openers aBV_bases aBV_blockTypes aBV_labelTypes aBV_unreachable x_10.1 x_10.2.1 zBo hx_10.1 hx_10.2.1 hzBo (zBo.labelTypes x_4.toNat) (hzBo.labelTypes _) (.ret x_18) e_19 ret_nb _) (xw_V 1 hts m_820 m_822 ms_BV_push m_6 m_823 (by decide +kernel) ⟨(Nat.le_of_ble_eq_true rfl), (Nat.le_of_ble_eq_true rfl)⟩) hP_14 hD_14 hS_14 [8, 9] [0, 1, 2, 3, 4, 5, 6, 7, 10, 11] rfl rfl (by decide +kernel) (by decide +kernel) (by decide +kernel) 0 5 rfl rfl rfl rfl hl.1 rfl (Nat.le_of_ble_eq_true rfl) d_BV_checkBranch_76 ⟨(Nat.le_of_ble_eq_true rfl), (Nat.le_of_ble_eq_true rfl)⟩ (fun v9 w9 H_19 locs_19 hp hP_19 hD_19 hS_19 => ?_) (fun x9 w9 H9 l9 hp _ _ _ => absurd hp (fun q9 => by obtain ⟨-, ho, -⟩ := q9; cases ho))
        clear hS_14 hD_14 hP_14
        obtain ⟨hx_18, ho, rfl⟩ := hp
        cases ho
        have hQ9 : (fun w9 => va_P G classes w9 H_19 ∧ va_D A w9) [(aCo, .inr (9, [.int (iI zCo.size), .ref aCo_ops, .ref aCo_values, .ref aCo_extras, .ref aCo_ends, .ref aCo_elses, .ref aCo_heights, .ref aCo_targets, .int (iI zCo.labelCount), .ref aCo_labels, .ref aCo_labelTargets])), (aCo_values, .inl (cJ, 2000, .inr (.inl zCo.values))), (aCo_heights, .inl (cI, 2000, .inl (fun k9 => iI (zCt.heights k9)))), (aCo_targets, .inl (cI, 2000, .inl (fun k9 => iI ((updZ zCt.targets v_at.toNat (zBo.openers x_4.toNat)) k9)))), (aCo_labelTargets, .inl (cI, 2000, .inl (fun k9 => iI (zCt.labelTargets k9)))), (aBV_openers, .inl (cI, 101, .inl (fun k9 => iI (zBo.openers k9)))), (aBV_blockTypes, .inl (cI, 101, .inl (fun k9 => iI (zBo.blockTypes k9)))), (aBV_labelTypes, .inl (cI, 101, .inl (fun k9 => iI (zBo.labelTypes k9)))), (aBV_bases, .inl (cI, 101, .inl (fun k9 => iI (zBo.bases k9)))), (aBV_unreachable, .inl (cZ, 101, .inl (fun k9 => bI (zBo.unreachable k9)))), (aBV, .inr (5, [.ref aWa, .ref aCo, .int (iI x_18.1.function), .ref aBV_types, .int (iI x_18.2.height), .ref aBV_openers, .ref aBV_bases, .ref aBV_blockTypes, .ref aBV_labelTypes, .ref aBV_unreachable, .int (iI zBo.openCount), .int (bI x_18.1.failed)])), (aBV_types, .inl (cI, 2000, .inl (fun k9 => iI (x_18.2.types k9))))] := ⟨hP_19, hD_19⟩
        clear hP_19 hD_19
        obtain ⟨hP_19, hD_19⟩ := hQ9
        refine lv_goto (tgt := 86) hx hb d_BV_checkBranch_79 (by decide) ?_
        exact hJK_13 (x_18.1, x_18.2, zBo) ⟨hx_18.1, hx_18.2, hzBo⟩ hf _ _ (hP_19.sub [0, 1, 2, 3, 4, 5, 6, 7, 10, 11, 8, 9] rfl) (hD_19.sub [0, 1, 2, 3, 4, 5, 6, 7, 10, 11, 8, 9] (by decide +kernel) rfl) hS_19 _ (lv_sub hl [1, 2, 3, 0] rfl)
    · have c_6 := (fun q9 => c_6 (((zv_le zero_v (iI_t hx_4))).mpr q9))
      replace hf := ifn c_6 hf
      refine lv_aload_n hx hb d_BV_checkBranch_31 rfl (lv_at hl 1 rfl) ?_
      refine lv_iconst (v := iI 1) hx hb d_BV_checkBranch_32 (by decide) ?_
      refine W.eq (g2 := F0 m 33 ls [.int (bI true), .ref aBV]) (by rfl) ?_
      refine va_put (D := G) (ci := 5) (v := .int (bI true)) (ty := .boolean) (C := R_BV) (T := F_BV) (N := 12) hx hb hts i_BV t_BV t_BV_ok n_BV hown hK hP_12 hD_12 hS_12 11 rfl rfl 11 (by decide) (hts _ m_119) (fun _ h9 => h9) rfl (by decide +kernel) (bI_nar _) (bI_fit _) (Nat.le_of_ble_eq_true rfl) d_BV_checkBranch_33 (fun H_20 locs_20 hP_20 hD_20 hS_20 => ?_)
      clear hS_12 hD_12 hP_12
      have hQ9 : (fun w9 => va_P G classes w9 H_20 ∧ va_D A w9) [(aCo, .inr (9, [.int (iI zCo.size), .ref aCo_ops, .ref aCo_values, .ref aCo_extras, .ref aCo_ends, .ref aCo_elses, .ref aCo_heights, .ref aCo_targets, .int (iI zCo.labelCount), .ref aCo_labels, .ref aCo_labelTargets])), (aCo_values, .inl (cJ, 2000, .inr (.inl zCo.values))), (aCo_heights, .inl (cI, 2000, .inl (fun k9 => iI (zCt.heights k9)))), (aCo_targets, .inl (cI, 2000, .inl (fun k9 => iI (zCt.targets k9)))), (aCo_labelTargets, .inl (cI, 2000, .inl (fun k9 => iI (zCt.labelTargets k9)))), (aBV_types, .inl (cI, 2000, .inl (fun k9 => iI (y_1.2.types k9)))), (aBV_openers, .inl (cI, 101, .inl (fun k9 => iI (zBo.openers k9)))), (aBV_bases, .inl (cI, 101, .inl (fun k9 => iI (zBo.bases k9)))), (aBV_blockTypes, .inl (cI, 101, .inl (fun k9 => iI (zBo.blockTypes k9)))), (aBV_labelTypes, .inl (cI, 101, .inl (fun k9 => iI (zBo.labelTypes k9)))), (aBV_unreachable, .inl (cZ, 101, .inl (fun k9 => bI (zBo.unreachable k9)))), (aBV, .inr (5, [.ref aWa, .ref aCo, .int (iI y_1.1.function), .ref aBV_types, .int (iI y_1.2.height), .ref aBV_openers, .ref aBV_bases, .ref aBV_blockTypes, .ref aBV_labelTypes, .ref aBV_unreachable, .int (iI zBo.openCount), .int (bI true)]))] := ⟨hP_20, hD_20⟩
      clear hP_20 hD_20
      obtain ⟨hP_20, hD_20⟩ := hQ9
      have hP_20 := hP_20.sub (ws' := [(aCo, .inr (9, [.int (iI zCo.size), .ref aCo_ops, .ref aCo_values, .ref aCo_extras, .ref aCo_ends, .ref aCo_elses, .ref aCo_heights, .ref aCo_targets, .int (iI zCo.labelCount), .ref aCo_labels, .ref aCo_labelTargets])), (aCo_values, .inl (cJ, 2000, .inr (.inl zCo.values))), (aCo_heights, .inl (cI, 2000, .inl (fun k9 => iI (zCt.heights k9)))), (aCo_targets, .inl (cI, 2000, .inl (fun k9 => iI (zCt.targets k9)))), (aCo_labelTargets, .inl (cI, 2000, .inl (fun k9 => iI (zCt.labelTargets k9)))), (aBV, .inr (5, [.ref aWa, .ref aCo, .int (iI y_1.1.function), .ref aBV_types, .int (iI y_1.2.height), .ref aBV_openers, .ref aBV_bases, .ref aBV_blockTypes, .ref aBV_labelTypes, .ref aBV_unreachable, .int (iI zBo.openCount), .int (bI true)])), (aBV_types, .inl (cI, 2000, .inl (fun k9 => iI (y_1.2.types k9)))), (aBV_openers, .inl (cI, 101, .inl (fun k9 => iI (zBo.openers k9)))), (aBV_bases, .inl (cI, 101, .inl (fun k9 => iI (zBo.bases k9)))), (aBV_blockTypes, .inl (cI, 101, .inl (fun k9 => iI (zBo.blockTypes k9)))), (aBV_labelTypes, .inl (cI, 101, .inl (fun k9 => iI (zBo.labelTypes k9)))), (aBV_unreachable, .inl (cZ, 101, .inl (fun k9 => bI (zBo.unreachable k9))))]) [0, 1, 2, 3, 4, 11, 5, 6, 7, 8, 9, 10] rfl
      have hD_20 := hD_20.sub (ws' := [(aCo, .inr (9, [.int (iI zCo.size), .ref aCo_ops, .ref aCo_values, .ref aCo_extras, .ref aCo_ends, .ref aCo_elses, .ref aCo_heights, .ref aCo_targets, .int (iI zCo.labelCount), .ref aCo_labels, .ref aCo_labelTargets])), (aCo_values, .inl (cJ, 2000, .inr (.inl zCo.values))), (aCo_heights, .inl (cI, 2000, .inl (fun k9 => iI (zCt.heights k9)))), (aCo_targets, .inl (cI, 2000, .inl (fun k9 => iI (zCt.targets k9)))), (aCo_labelTargets, .inl (cI, 2000, .inl (fun k9 => iI (zCt.labelTargets k9)))), (aBV, .inr (5, [.ref aWa, .ref aCo, .int (iI y_1.1.function), .ref aBV_types, .int (iI y_1.2.height), .ref aBV_openers, .ref aBV_bases, .ref aBV_blockTypes, .ref aBV_labelTypes, .ref aBV_unreachable, .int (iI zBo.openCount), .int (bI true)])), (aBV_types, .inl (cI, 2000, .inl (fun k9 => iI (y_1.2.types k9)))), (aBV_openers, .inl (cI, 101, .inl (fun k9 => iI (zBo.openers k9)))), (aBV_bases, .inl (cI, 101, .inl (fun k9 => iI (zBo.bases k9)))), (aBV_blockTypes, .inl (cI, 101, .inl (fun k9 => iI (zBo.blockTypes k9)))), (aBV_labelTypes, .inl (cI, 101, .inl (fun k9 => iI (zBo.labelTypes k9)))), (aBV_unreachable, .inl (cZ, 101, .inl (fun k9 => bI (zBo.unreachable k9))))]) [0, 1, 2, 3, 4, 11, 5, 6, 7, 8, 9, 10] (by decide +kernel) rfl
      exact ex_W (fun _ h => ex_mq h) (W.vret hx hb hr (fun t ht hW => ⟨⟨_, ozr hf ⟨⟨hzCt, (KBV.Ok.mk hy_1.1.function : KBV.Ok (KBV.mk y_1.1.function true)), hy_1.2, hzBo⟩, rfl, rfl⟩, by rw [ht]; exact hP_20, hD_20⟩, hS_20.F ht⟩) hS_20.2.2 d_BV_checkBranch_36)
  clear hK_2
  refine lv_icmp_ne (tgt := 13) hx hb d_BV_checkBranch_3 (by decide) (fun c_20 => ?_) (fun c_20 => ?_)
  · have c_20 := (fun q9 => c_20 (((zv_eq (iI_t hv_op) (iI_t (show R32 (13) by decide)))).mpr q9))
    replace hf := ifn c_20 hf
    exact hJK_2 (zBV, zBt) ⟨hzBV, hzBt⟩ hf _ _ hP hD hS _ (lv_sub hl [0, 1, 2] rfl)
  · have c_20 := ((zv_eq (iI_t hv_op) (iI_t (show R32 (13) by decide)))).mp c_20
    replace hf := ifp c_20 hf
    refine lv_aload_n hx hb d_BV_checkBranch_6 rfl (lv_at hl 0 rfl) ?_
    refine lv_bipush (v := iI 127) hx hb d_BV_checkBranch_7 (by decide) ?_
    replace hf := obE hnb hf
    obtain ⟨x_21, e_22, hf⟩ := hf
    refine xx_callV (wc := [(aBV, .inr (5, [.ref aWa, .ref aCo, .int (iI zBV.function), .ref aBV_types, .int (iI zBt.height), .ref aBV_openers, .ref aBV_bases, .ref aBV_blockTypes, .ref aBV_labelTypes, .ref aBV_unreachable, .int (iI zBo.openCount), .int (bI zBV.failed)])), (aBV_types, .inl (cI, 2000, .inl (fun k9 => iI (zBt.types k9)))), (aBV_bases, .inl (cI, 101, .inl (fun k9 => iI (zBo.bases k9)))), (aBV_unreachable, .inl (cZ, 101, .inl (fun k9 => bI (zBo.unreachable k9))))]) (wr := [(aCo, .inr (9, [.int (iI zCo.size), .ref aCo_ops, .ref aCo_values, .ref aCo_extras, .ref aCo_ends, .ref aCo_elses, .ref aCo_heights, .ref aCo_targets, .int (iI zCo.labelCount), .ref aCo_labels, .ref aCo_labelTargets])), (aCo_values, .inl (cJ, 2000, .inr (.inl zCo.values))), (aCo_heights, .inl (cI, 2000, .inl (fun k9 => iI (zCt.heights k9)))), (aCo_targets, .inl (cI, 2000, .inl (fun k9 => iI (zCt.targets k9)))), (aCo_labelTargets, .inl (cI, 2000, .inl (fun k9 => iI (zCt.labelTargets k9)))), (aBV_openers, .inl (cI, 101, .inl (fun k9 => iI (zBo.openers k9)))), (aBV_blockTypes, .inl (cI, 101, .inl (fun k9 => iI (zBo.blockTypes k9)))), (aBV_labelTypes, .inl (cI, 101, .inl (fun k9 => iI (zBo.labelTypes k9))))]) (As := [.int (iI 127)]) (rest := []) ⟨hx, hb, hml, hown, hts⟩ xE_st hK hE hA (k_BV_pop l htr G cB cI cJ cZ cG aBV aWa aCo aBV_types aBV_openers aBV_bases aBV_blockTypes aBV_labelTypes aBV_unreachable zBV zBt zBo hzBV hzBt hzBo 127 (show R32 (127) by decide) (.ret x_21) e_22 ret_nb _) (xw_V 1 hts m_804 m_806 ms_BV_pop m_6 m_807 (by decide +kernel) ⟨(Nat.le_of_ble_eq_true rfl), (Nat.le_of_ble_eq_true rfl)⟩) hP hD hS [5, 6, 8, 11] [0, 1, 2, 3, 4, 7, 9, 10] rfl rfl (by decide +kernel) (by decide +kernel) (by decide +kernel) 0 5 rfl rfl rfl rfl hl.1 rfl (Nat.le_of_ble_eq_true rfl) d_BV_checkBranch_9 ⟨(Nat.le_of_ble_eq_true rfl), (Nat.le_of_ble_eq_true rfl)⟩ (fun v9 w9 H_21 locs_21 hp hP_21 hD_21 hS_21 => ?_) (fun x9 w9 H9 l9 hp _ _ _ => absurd hp (fun q9 => by obtain ⟨-, ho, -⟩ := q9; cases ho))
    clear hS hD hP
    obtain ⟨hx_21, ho, rfl⟩ := hp
    cases ho
    have hQ9 : (fun w9 => va_P G classes w9 H_21 ∧ va_D A w9) [(aCo, .inr (9, [.int (iI zCo.size), .ref aCo_ops, .ref aCo_values, .ref aCo_extras, .ref aCo_ends, .ref aCo_elses, .ref aCo_heights, .ref aCo_targets, .int (iI zCo.labelCount), .ref aCo_labels, .ref aCo_labelTargets])), (aCo_values, .inl (cJ, 2000, .inr (.inl zCo.values))), (aCo_heights, .inl (cI, 2000, .inl (fun k9 => iI (zCt.heights k9)))), (aCo_targets, .inl (cI, 2000, .inl (fun k9 => iI (zCt.targets k9)))), (aCo_labelTargets, .inl (cI, 2000, .inl (fun k9 => iI (zCt.labelTargets k9)))), (aBV_openers, .inl (cI, 101, .inl (fun k9 => iI (zBo.openers k9)))), (aBV_blockTypes, .inl (cI, 101, .inl (fun k9 => iI (zBo.blockTypes k9)))), (aBV_labelTypes, .inl (cI, 101, .inl (fun k9 => iI (zBo.labelTypes k9)))), (aBV, .inr (5, [.ref aWa, .ref aCo, .int (iI x_21.1.function), .ref aBV_types, .int (iI x_21.2.1.height), .ref aBV_openers, .ref aBV_bases, .ref aBV_blockTypes, .ref aBV_labelTypes, .ref aBV_unreachable, .int (iI zBo.openCount), .int (bI x_21.1.failed)])), (aBV_types, .inl (cI, 2000, .inl (fun k9 => iI (x_21.2.1.types k9)))), (aBV_bases, .inl (cI, 101, .inl (fun k9 => iI (zBo.bases k9)))), (aBV_unreachable, .inl (cZ, 101, .inl (fun k9 => bI (zBo.unreachable k9))))] := ⟨hP_21, hD_21⟩
    clear hP_21 hD_21
    obtain ⟨hP_21, hD_21⟩ := hQ9
    refine lv_pop hx hb d_BV_checkBranch_12 rfl ?_
    exact hJK_2 (x_21.1, x_21.2.1) ⟨hx_21.1, hx_21.2.1⟩ hf _ _ (hP_21.sub [0, 1, 2, 3, 4, 8, 9, 5, 10, 6, 7, 11] rfl) (hD_21.sub [0, 1, 2, 3, 4, 8, 9, 5, 10, 6, 7, 11] (by decide +kernel) rfl) hS_21 _ (lv_sub hl [0, 1, 2] rfl)
set_option maxHeartbeats 8000000 in
set_option maxRecDepth 100000 in
theorem k_BV_checkTable (l : Launch) (htr : l.stackTraces = false) (G : va_G) (cB cI cJ cZ cG : ClassId) (aCo : Nat) (aCo_ops : Nat) (aCo_values : Nat) (aCo_extras : Nat) (aCo_ends : Nat) (aCo_elses : Nat) (aCo_heights : Nat) (aCo_targets : Nat) (aCo_labels : Nat) (aCo_labelTargets : Nat) (aBV : Nat) (aWa : Nat) (aBV_types : Nat) (aBV_openers : Nat) (aBV_bases : Nat) (aBV_blockTypes : Nat) (aBV_labelTypes : Nat) (aBV_unreachable : Nat) (zCo : KCo) (zCt : KCt) (zBV : KBV) (zBt : KBt) (zBo : KBo) (hzCo : KCo.Ok zCo) (hzCt : KCt.Ok zCt) (hzBV : KBV.Ok zBV) (hzBt : KBt.Ok zBt) (hzBo : KBo.Ok zBo) (v_at : Int) (hv_at : R32 v_at) (fu : Nat) (R9 : Out Empty (KCt × KBV × KBt × KBo)) (hf : f_BV_checkTable fu zCo zCt zBV zBt zBo v_at = R9) (hnb : R9 ≠ .bad) (sz : Nat) : MetX l y_BV_checkTable (wx y_BV_checkTable b_BV_checkTable 7 none) { frames := 1, cells := 0, slots := 0, locals := 22 } (XP G classes (xtys cB cI cJ cZ cG) xE [.ref aBV, .int (iI v_at)] [(aCo, .inr (9, [.int (iI zCo.size), .ref aCo_ops, .ref aCo_values, .ref aCo_extras, .ref aCo_ends, .ref aCo_elses, .ref aCo_heights, .ref aCo_targets, .int (iI zCo.labelCount), .ref aCo_labels, .ref aCo_labelTargets])), (aCo_values, .inl (cJ, 2000, .inr (.inl zCo.values))), (aCo_extras, .inl (cI, 2000, .inl (fun k9 => iI (zCo.extras k9)))), (aCo_heights, .inl (cI, 2000, .inl (fun k9 => iI (zCt.heights k9)))), (aCo_targets, .inl (cI, 2000, .inl (fun k9 => iI (zCt.targets k9)))), (aCo_labels, .inl (cI, 2000, .inl (fun k9 => iI (zCo.labels k9)))), (aCo_labelTargets, .inl (cI, 2000, .inl (fun k9 => iI (zCt.labelTargets k9)))), (aBV, .inr (5, [.ref aWa, .ref aCo, .int (iI zBV.function), .ref aBV_types, .int (iI zBt.height), .ref aBV_openers, .ref aBV_bases, .ref aBV_blockTypes, .ref aBV_labelTypes, .ref aBV_unreachable, .int (iI zBo.openCount), .int (bI zBV.failed)])), (aBV_types, .inl (cI, 2000, .inl (fun k9 => iI (zBt.types k9)))), (aBV_openers, .inl (cI, 101, .inl (fun k9 => iI (zBo.openers k9)))), (aBV_bases, .inl (cI, 101, .inl (fun k9 => iI (zBo.bases k9)))), (aBV_blockTypes, .inl (cI, 101, .inl (fun k9 => iI (zBo.blockTypes k9)))), (aBV_labelTypes, .inl (cI, 101, .inl (fun k9 => iI (zBo.labelTypes k9)))), (aBV_unreachable, .inl (cZ, 101, .inl (fun k9 => bI (zBo.unreachable k9))))] sz) (XQ G classes (va_A [(aCo, .inr (9, [.int (iI zCo.size), .ref aCo_ops, .ref aCo_values, .ref aCo_extras, .ref aCo_ends, .ref aCo_elses, .ref aCo_heights, .ref aCo_targets, .int (iI zCo.labelCount), .ref aCo_labels, .ref aCo_labelTargets])), (aCo_values, .inl (cJ, 2000, .inr (.inl zCo.values))), (aCo_extras, .inl (cI, 2000, .inl (fun k9 => iI (zCo.extras k9)))), (aCo_heights, .inl (cI, 2000, .inl (fun k9 => iI (zCt.heights k9)))), (aCo_targets, .inl (cI, 2000, .inl (fun k9 => iI (zCt.targets k9)))), (aCo_labels, .inl (cI, 2000, .inl (fun k9 => iI (zCo.labels k9)))), (aCo_labelTargets, .inl (cI, 2000, .inl (fun k9 => iI (zCt.labelTargets k9)))), (aBV, .inr (5, [.ref aWa, .ref aCo, .int (iI zBV.function), .ref aBV_types, .int (iI zBt.height), .ref aBV_openers, .ref aBV_bases, .ref aBV_blockTypes, .ref aBV_labelTypes, .ref aBV_unreachable, .int (iI zBo.openCount), .int (bI zBV.failed)])), (aBV_types, .inl (cI, 2000, .inl (fun k9 => iI (zBt.types k9)))), (aBV_openers, .inl (cI, 101, .inl (fun k9 => iI (zBo.openers k9)))), (aBV_bases, .inl (cI, 101, .inl (fun k9 => iI (zBo.bases k9)))), (aBV_blockTypes, .inl (cI, 101, .inl (fun k9 => iI (zBo.blockTypes k9)))), (aBV_labelTypes, .inl (cI, 101, .inl (fun k9 => iI (zBo.labelTypes k9)))), (aBV_unreachable, .inl (cZ, 101, .inl (fun k9 => bI (zBo.unreachable k9))))] sz) (fun o w1 => ozp R9 (fun x9 => (KCt.Ok x9.1 ∧ KBV.Ok x9.2.1 ∧ KBt.Ok x9.2.2.1 ∧ KBo.Ok x9.2.2.2) ∧ o = .returned none ∧ w1 = [(aCo, .inr (9, [.int (iI zCo.size), .ref aCo_ops, .ref aCo_values, .ref aCo_extras, .ref aCo_ends, .ref aCo_elses, .ref aCo_heights, .ref aCo_targets, .int (iI zCo.labelCount), .ref aCo_labels, .ref aCo_labelTargets])), (aCo_values, .inl (cJ, 2000, .inr (.inl zCo.values))), (aCo_extras, .inl (cI, 2000, .inl (fun k9 => iI (zCo.extras k9)))), (aCo_heights, .inl (cI, 2000, .inl (fun k9 => iI (x9.1.heights k9)))), (aCo_targets, .inl (cI, 2000, .inl (fun k9 => iI (x9.1.targets k9)))), (aCo_labels, .inl (cI, 2000, .inl (fun k9 => iI (zCo.labels k9)))), (aCo_labelTargets, .inl (cI, 2000, .inl (fun k9 => iI (x9.1.labelTargets k9)))), (aBV, .inr (5, [.ref aWa, .ref aCo, .int (iI x9.2.1.function), .ref aBV_types, .int (iI x9.2.2.1.height), .ref aBV_openers, .ref aBV_bases, .ref aBV_blockTypes, .ref aBV_labelTypes, .ref aBV_unreachable, .int (iI x9.2.2.2.openCount), .int (bI x9.2.1.failed)])), (aBV_types, .inl (cI, 2000, .inl (fun k9 => iI (x9.2.2.1.types k9)))), (aBV_openers, .inl (cI, 101, .inl (fun k9 => iI (x9.2.2.2.openers k9)))), (aBV_bases, .inl (cI, 101, .inl (fun k9 => iI (x9.2.2.2.bases k9)))), (aBV_blockTypes, .inl (cI, 101, .inl (fun k9 => iI (x9.2.2.2.blockTypes k9)))), (aBV_labelTypes, .inl (cI, 101, .inl (fun k9 => iI (x9.2.2.2.labelTypes k9)))), (aBV_unreachable, .inl (cZ, 101, .inl (fun k9 => bI (x9.2.2.2.unreachable k9))))]) (fun _ => False))) 0 0 (va_A [(aCo, .inr (9, [.int (iI zCo.size), .ref aCo_ops, .ref aCo_values, .ref aCo_extras, .ref aCo_ends, .ref aCo_elses, .ref aCo_heights, .ref aCo_targets, .int (iI zCo.labelCount), .ref aCo_labels, .ref aCo_labelTargets])), (aCo_values, .inl (cJ, 2000, .inr (.inl zCo.values))), (aCo_extras, .inl (cI, 2000, .inl (fun k9 => iI (zCo.extras k9)))), (aCo_heights, .inl (cI, 2000, .inl (fun k9 => iI (zCt.heights k9)))), (aCo_targets, .inl (cI, 2000, .inl (fun k9 => iI (zCt.targets k9)))), (aCo_labels, .inl (cI, 2000, .inl (fun k9 => iI (zCo.labels k9)))), (aCo_labelTargets, .inl (cI, 2000, .inl (fun k9 => iI (zCt.labelTargets k9)))), (aBV, .inr (5, [.ref aWa, .ref aCo, .int (iI zBV.function), .ref aBV_types, .int (iI zBt.height), .ref aBV_openers, .ref aBV_bases, .ref aBV_blockTypes, .ref aBV_labelTypes, .ref aBV_unreachable, .int (iI zBo.openCount), .int (bI zBV.failed)])), (aBV_types, .inl (cI, 2000, .inl (fun k9 => iI (zBt.types k9)))), (aBV_openers, .inl (cI, 101, .inl (fun k9 => iI (zBo.openers k9)))), (aBV_bases, .inl (cI, 101, .inl (fun k9 => iI (zBo.bases k9)))), (aBV_blockTypes, .inl (cI, 101, .inl (fun k9 => iI (zBo.blockTypes k9)))), (aBV_labelTypes, .inl (cI, 101, .inl (fun k9 => iI (zBo.labelTypes k9)))), (aBV_unreachable, .inl (cZ, 101, .inl (fun k9 => bI (zBo.unreachable k9))))] sz) := by
  refine ex_ofW (cc := b_BV_checkTable) (maxL := 7) (ret := none) (by decide) rfl ?_
  intro p e s m args below meth c s₁ B hml hno hv
  obtain ⟨rfl, hsz, hP, hK, hD0, hE⟩ := hv
  have hx := B.exec
  have hb := B.bytes
  have hr := B.returns
  have hts : ∀ w ∈ lw_good, w.before _ s = true := fun w h => atoms_spec (ws := wx y_BV_checkTable b_BV_checkTable 7 none) B.pre w (List.mem_cons_of_mem _ h)
  have hown : s.vm.findClass R_BV = some m.cls := findClass_of_methodNamed B.named
  have hlocks := B.notSynchronized
  subst hsz
  have hNS := xx_nostat hP
  have hD := hD0.self (sz := s.heap.size)
  generalize hAe : va_A [(aCo, .inr (9, [.int (iI zCo.size), .ref aCo_ops, .ref aCo_values, .ref aCo_extras, .ref aCo_ends, .ref aCo_elses, .ref aCo_heights, .ref aCo_targets, .int (iI zCo.labelCount), .ref aCo_labels, .ref aCo_labelTargets])), (aCo_values, .inl (cJ, 2000, .inr (.inl zCo.values))), (aCo_extras, .inl (cI, 2000, .inl (fun k9 => iI (zCo.extras k9)))), (aCo_heights, .inl (cI, 2000, .inl (fun k9 => iI (zCt.heights k9)))), (aCo_targets, .inl (cI, 2000, .inl (fun k9 => iI (zCt.targets k9)))), (aCo_labels, .inl (cI, 2000, .inl (fun k9 => iI (zCo.labels k9)))), (aCo_labelTargets, .inl (cI, 2000, .inl (fun k9 => iI (zCt.labelTargets k9)))), (aBV, .inr (5, [.ref aWa, .ref aCo, .int (iI zBV.function), .ref aBV_types, .int (iI zBt.height), .ref aBV_openers, .ref aBV_bases, .ref aBV_blockTypes, .ref aBV_labelTypes, .ref aBV_unreachable, .int (iI zBo.openCount), .int (bI zBV.failed)])), (aBV_types, .inl (cI, 2000, .inl (fun k9 => iI (zBt.types k9)))), (aBV_openers, .inl (cI, 101, .inl (fun k9 => iI (zBo.openers k9)))), (aBV_bases, .inl (cI, 101, .inl (fun k9 => iI (zBo.bases k9)))), (aBV_blockTypes, .inl (cI, 101, .inl (fun k9 => iI (zBo.blockTypes k9)))), (aBV_labelTypes, .inl (cI, 101, .inl (fun k9 => iI (zBo.labelTypes k9)))), (aBV_unreachable, .inl (cZ, 101, .inl (fun k9 => bI (zBo.unreachable k9))))] s.heap.size = A at hD hE hNS ⊢
  have hA : ∀ q : Nat, s.heap.size ≤ q → A q := fun q h => by rw [← hAe]; exact Or.inr h
  have hS : va_S A s.heap s.heap [] := va_S.rf
  have hl := lv_entry ([.ref aBV, .int (iI v_at)]) (n := 7) (Nat.le_of_ble_eq_true rfl)
  rw [lg_entry_eq]
  generalize (lg_sl ([.ref aBV, .int (iI v_at)]) ++ List.replicate (7 - (lg_sl ([.ref aBV, .int (iI v_at)])).length) Slot.unset).toArray = ls at hl ⊢
  have hl : lv_has ls 7 [(0, .ref aBV), (1, .int (iI v_at))] := hl
  unfold f_BV_checkTable at hf
  refine lv_aload_n hx hb d_BV_checkTable_0 rfl (lv_at hl 0 rfl) ?_
  refine va_get (D := G) (ci := 5) (v := .ref aCo) (C := R_BV) (T := F_BV) (N := 12) hx hb hts i_BV hown hK hP 7 rfl rfl 1 (by decide) (hts _ m_109) (fun _ h9 => h9) rfl d_BV_checkTable_1 ?_
  refine va_get (D := G) (ci := 9) (v := .ref aCo_extras) (C := R_Co) (T := F_Co) (N := 11) hx hb hts i_Co hown hK hP 0 rfl rfl 3 (by decide) (hts _ m_268) (fun _ h9 => h9) rfl d_BV_checkTable_4 ?_
  refine lv_iload_n hx hb d_BV_checkTable_7 rfl (lv_at hl 1 rfl) ?_
  replace hf := grd hnb hf
  obtain ⟨g_1, hf⟩ := hf
  refine va_iald hx hb hK hP 2 1 rfl rfl (vp_in_iI hv_at g_1) d_BV_checkTable_8 ?_
  refine W.eq (g2 := F0 m 9 ls [.int (iI (zCo.extras v_at.toNat))]) (by rw [iI_clamp hv_at] <;> rfl) ?_
  refine lv_istore_n (lv' := [(2, .int (iI (zCo.extras v_at.toNat))), (0, .ref aBV), (1, .int (iI v_at))]) hx hb d_BV_checkTable_9 rfl hl (by decide) rfl (fun ls hl => ?_)
  refine lv_iload_n hx hb d_BV_checkTable_10 rfl (lv_at hl 0 rfl) ?_
  refine lv_aload_n hx hb d_BV_checkTable_11 rfl (lv_at hl 1 rfl) ?_
  refine va_get (D := G) (ci := 5) (v := .ref aCo) (C := R_BV) (T := F_BV) (N := 12) hx hb hts i_BV hown hK hP 7 rfl rfl 1 (by decide) (hts _ m_109) (fun _ h9 => h9) rfl d_BV_checkTable_12 ?_
  refine va_get (D := G) (ci := 9) (v := .ref aCo_values) (C := R_Co) (T := F_Co) (N := 11) hx hb hts i_Co hown hK hP 0 rfl rfl 2 (by decide) (hts _ m_264) (fun _ h9 => h9) rfl d_BV_checkTable_15 ?_
  refine lv_iload_n hx hb d_BV_checkTable_18 rfl (lv_at hl 2 rfl) ?_
  replace hf := grd hnb hf
  obtain ⟨g_2, hf⟩ := hf
  refine va_lald hx hb hK hP 1 2 rfl rfl (vp_in_iI hv_at g_2) d_BV_checkTable_19 ?_
  refine W.eq (g2 := F0 m 20 ls [.long (zCo.values v_at.toNat), .int (iI (zCo.extras v_at.toNat))]) (by rw [iI_clamp hv_at] <;> rfl) ?_
  refine lv_l2i hx hb d_BV_checkTable_20 rfl ?_
  refine lv_iadd hx hb d_BV_checkTable_21 ?_
  refine W.eq (g2 := F0 m 22 ls [.int (iI (((iI (zCo.extras v_at.toNat)) + ((zCo.values v_at.toNat).toInt32)).toInt))]) (by rw [← iI_of ((iI (zCo.extras v_at.toNat)) + ((zCo.values v_at.toNat).toInt32))] <;> rfl) ?_
  refine lv_istore_n (lv' := [(3, .int (iI (((iI (zCo.extras v_at.toNat)) + ((zCo.values v_at.toNat).toInt32)).toInt))), (2, .int (iI (zCo.extras v_at.toNat))), (0, .ref aBV), (1, .int (iI v_at))]) hx hb d_BV_checkTable_22 rfl hl (by decide) rfl (fun ls hl => ?_)
  refine lv_aload_n hx hb d_BV_checkTable_23 rfl (lv_at hl 2 rfl) ?_
  refine lv_aload_n hx hb d_BV_checkTable_24 rfl (lv_at hl 2 rfl) ?_
  refine va_get (D := G) (ci := 5) (v := .ref aCo) (C := R_BV) (T := F_BV) (N := 12) hx hb hts i_BV hown hK hP 7 rfl rfl 1 (by decide) (hts _ m_109) (fun _ h9 => h9) rfl d_BV_checkTable_25 ?_
  refine va_get (D := G) (ci := 9) (v := .ref aCo_labels) (C := R_Co) (T := F_Co) (N := 11) hx hb hts i_Co hown hK hP 0 rfl rfl 9 (by decide) (hts _ m_287) (fun _ h9 => h9) rfl d_BV_checkTable_28 ?_
  refine lv_iload_n hx hb d_BV_checkTable_31 rfl (lv_at hl 0 rfl) ?_
  replace hf := grd hnb hf
  obtain ⟨g_3, hf⟩ := hf
  refine va_iald hx hb hK hP 5 1 rfl rfl (vp_in_iI (R32_of _) g_3) d_BV_checkTable_32 ?_
  refine W.eq (g2 := F0 m 33 ls [.int (iI (zCo.labels (((iI (zCo.extras v_at.toNat)) + ((zCo.values v_at.toNat).toInt32)).toInt).toNat)), .ref aBV]) (by rw [iI_clamp (R32_of _)] <;> rfl) ?_
  refine lv_i2l hx hb d_BV_checkTable_33 rfl ?_
  replace hf := obE hnb hf
  obtain ⟨x_4, e_5, hf⟩ := hf
  refine xx_callV (wc := [(aBV, .inr (5, [.ref aWa, .ref aCo, .int (iI zBV.function), .ref aBV_types, .int (iI zBt.height), .ref aBV_openers, .ref aBV_bases, .ref aBV_blockTypes, .ref aBV_labelTypes, .ref aBV_unreachable, .int (iI zBo.openCount), .int (bI zBV.failed)]))]) (wr := [(aCo, .inr (9, [.int (iI zCo.size), .ref aCo_ops, .ref aCo_values, .ref aCo_extras, .ref aCo_ends, .ref aCo_elses, .ref aCo_heights, .ref aCo_targets, .int (iI zCo.labelCount), .ref aCo_labels, .ref aCo_labelTargets])), (aCo_values, .inl (cJ, 2000, .inr (.inl zCo.values))), (aCo_extras, .inl (cI, 2000, .inl (fun k9 => iI (zCo.extras k9)))), (aCo_heights, .inl (cI, 2000, .inl (fun k9 => iI (zCt.heights k9)))), (aCo_targets, .inl (cI, 2000, .inl (fun k9 => iI (zCt.targets k9)))), (aCo_labels, .inl (cI, 2000, .inl (fun k9 => iI (zCo.labels k9)))), (aCo_labelTargets, .inl (cI, 2000, .inl (fun k9 => iI (zCt.labelTargets k9)))), (aBV_types, .inl (cI, 2000, .inl (fun k9 => iI (zBt.types k9)))), (aBV_openers, .inl (cI, 101, .inl (fun k9 => iI (zBo.openers k9)))), (aBV_bases, .inl (cI, 101, .inl (fun k9 => iI (zBo.bases k9)))), (aBV_blockTypes, .inl (cI, 101, .inl (fun k9 => iI (zBo.blockTypes k9)))), (aBV_labelTypes, .inl (cI, 101, .inl (fun k9 => iI (zBo.labelTypes k9)))), (aBV_unreachable, .inl (cZ, 101, .inl (fun k9 => bI (zBo.unreachable k9))))]) (As := [.long ((iI (zCo.labels (((iI (zCo.extras v_at.toNat)) + ((zCo.values v_at.toNat).toInt32)).toInt).toNat)).toInt64)]) (rest := []) ⟨hx, hb, hml, hown, hts⟩ xE_st hK hE hA (k_BV_levelOf l htr G cB cI cJ cZ cG aBV aWa aCo aBV_types aBV_openers aBV_bases aBV_blockTypes aBV_labelTypes aBV_unreachable zBV zBt zBo hzBV hzBt hzBo ((iI (zCo.labels (((iI (zCo.extras v_at.toNat)) + ((zCo.values v_at.toNat).toInt32)).toInt).toNat)).toInt64) (.ret x_4) e_5 ret_nb _) (xw_V 1 hts m_816 m_818 ms_BV_levelOf m_6 m_819 (by decide +kernel) ⟨(Nat.le_of_ble_eq_true rfl), (Nat.le_of_ble_eq_true rfl)⟩) hP hD hS [7] [0, 1, 2, 3, 4, 5, 6, 8, 9, 10, 11, 12, 13] rfl rfl (by decide +kernel) (by decide +kernel) (by decide +kernel) 0 5 rfl rfl rfl rfl hl.1 rfl (Nat.le_of_ble_eq_true rfl) d_BV_checkTable_34 ⟨(Nat.le_of_ble_eq_true rfl), (Nat.le_of_ble_eq_true rfl)⟩ (fun v9 w9 H_1 locs_1 hp hP_1 hD_1 hS_1 => ?_) (fun x9 w9 H9 l9 hp _ _ _ => absurd hp (fun q9 => by obtain ⟨-, ho, -⟩ := q9; cases ho))
  clear hS hD hP
  obtain ⟨hx_4, ho, rfl⟩ := hp
  cases ho
  have hQ9 : (fun w9 => va_P G classes w9 H_1 ∧ va_D A w9) [(aCo, .inr (9, [.int (iI zCo.size), .ref aCo_ops, .ref aCo_values, .ref aCo_extras, .ref aCo_ends, .ref aCo_elses, .ref aCo_heights, .ref aCo_targets, .int (iI zCo.labelCount), .ref aCo_labels, .ref aCo_labelTargets])), (aCo_values, .inl (cJ, 2000, .inr (.inl zCo.values))), (aCo_extras, .inl (cI, 2000, .inl (fun k9 => iI (zCo.extras k9)))), (aCo_heights, .inl (cI, 2000, .inl (fun k9 => iI (zCt.heights k9)))), (aCo_targets, .inl (cI, 2000, .inl (fun k9 => iI (zCt.targets k9)))), (aCo_labels, .inl (cI, 2000, .inl (fun k9 => iI (zCo.labels k9)))), (aCo_labelTargets, .inl (cI, 2000, .inl (fun k9 => iI (zCt.labelTargets k9)))), (aBV_types, .inl (cI, 2000, .inl (fun k9 => iI (zBt.types k9)))), (aBV_openers, .inl (cI, 101, .inl (fun k9 => iI (zBo.openers k9)))), (aBV_bases, .inl (cI, 101, .inl (fun k9 => iI (zBo.bases k9)))), (aBV_blockTypes, .inl (cI, 101, .inl (fun k9 => iI (zBo.blockTypes k9)))), (aBV_labelTypes, .inl (cI, 101, .inl (fun k9 => iI (zBo.labelTypes k9)))), (aBV_unreachable, .inl (cZ, 101, .inl (fun k9 => bI (zBo.unreachable k9)))), (aBV, .inr (5, [.ref aWa, .ref aCo, .int (iI zBV.function), .ref aBV_types, .int (iI zBt.height), .ref aBV_openers, .ref aBV_bases, .ref aBV_blockTypes, .ref aBV_labelTypes, .ref aBV_unreachable, .int (iI zBo.openCount), .int (bI zBV.failed)]))] := ⟨hP_1, hD_1⟩
  clear hP_1 hD_1
  obtain ⟨hP_1, hD_1⟩ := hQ9
  refine lv_istore (lv' := [(4, .int (iI x_4)), (3, .int (iI (((iI (zCo.extras v_at.toNat)) + ((zCo.values v_at.toNat).toInt32)).toInt))), (2, .int (iI (zCo.extras v_at.toNat))), (0, .ref aBV), (1, .int (iI v_at))]) hx hb d_BV_checkTable_37 hl (by decide) rfl (fun ls hl => ?_)
  refine lv_iload_n hx hb d_BV_checkTable_39 rfl (lv_at hl 2 rfl) ?_
  refine lv_istore (lv' := [(5, .int (iI (zCo.extras v_at.toNat))), (4, .int (iI x_4)), (3, .int (iI (((iI (zCo.extras v_at.toNat)) + ((zCo.values v_at.toNat).toInt32)).toInt))), (2, .int (iI (zCo.extras v_at.toNat))), (0, .ref aBV), (1, .int (iI v_at))]) hx hb d_BV_checkTable_40 hl (by decide) rfl (fun ls hl => ?_)
  have loop_42 : ∀ (n_6 : Nat) (zCt_8 : KCt) (w_k_9 : Int), KCt.Ok zCt_8 → R32 w_k_9 → L42_BV_checkTable fu zCo zBV zBt zBo v_at x_4 n_6 zCt_8 w_k_9 = R9 → ∀ (H_1 : Heap) (locs_1 : List Loc), (fun w9 => va_P G classes w9 H_1 → va_D A w9 → va_S A s.heap H_1 locs_1 → ∀ (ls : Array Slot), lv_has ls 7 [(0, .ref aBV), (1, .int (iI v_at)), (2, .int (iI (zCo.extras v_at.toNat))), (3, .int (iI (((iI (zCo.extras v_at.toNat)) + ((zCo.values v_at.toNat).toInt32)).toInt))), (4, .int (iI x_4)), (5, .int (iI w_k_9))] → W p l e (headSpec (wx y_BV_checkTable b_BV_checkTable 7 none) { frames := 1, cells := 0, slots := 0, locals := 22 }).room s m ([.ref aBV, .int (iI v_at)] : List Value).toArray below meth c H_1 locs_1 0 0 (MX below (XQ G classes A (fun o w1 => ozp R9 (fun x9 => (KCt.Ok x9.1 ∧ KBV.Ok x9.2.1 ∧ KBt.Ok x9.2.2.1 ∧ KBo.Ok x9.2.2.2) ∧ o = .returned none ∧ w1 = [(aCo, .inr (9, [.int (iI zCo.size), .ref aCo_ops, .ref aCo_values, .ref aCo_extras, .ref aCo_ends, .ref aCo_elses, .ref aCo_heights, .ref aCo_targets, .int (iI zCo.labelCount), .ref aCo_labels, .ref aCo_labelTargets])), (aCo_values, .inl (cJ, 2000, .inr (.inl zCo.values))), (aCo_extras, .inl (cI, 2000, .inl (fun k9 => iI (zCo.extras k9)))), (aCo_heights, .inl (cI, 2000, .inl (fun k9 => iI (x9.1.heights k9)))), (aCo_targets, .inl (cI, 2000, .inl (fun k9 => iI (x9.1.targets k9)))), (aCo_labels, .inl (cI, 2000, .inl (fun k9 => iI (zCo.labels k9)))), (aCo_labelTargets, .inl (cI, 2000, .inl (fun k9 => iI (x9.1.labelTargets k9)))), (aBV, .inr (5, [.ref aWa, .ref aCo, .int (iI x9.2.1.function), .ref aBV_types, .int (iI x9.2.2.1.height), .ref aBV_openers, .ref aBV_bases, .ref aBV_blockTypes, .ref aBV_labelTypes, .ref aBV_unreachable, .int (iI x9.2.2.2.openCount), .int (bI x9.2.1.failed)])), (aBV_types, .inl (cI, 2000, .inl (fun k9 => iI (x9.2.2.1.types k9)))), (aBV_openers, .inl (cI, 101, .inl (fun k9 => iI (x9.2.2.2.openers k9)))), (aBV_bases, .inl (cI, 101, .inl (fun k9 => iI (x9.2.2.2.bases k9)))), (aBV_blockTypes, .inl (cI, 101, .inl (fun k9 => iI (x9.2.2.2.blockTypes k9)))), (aBV_labelTypes, .inl (cI, 101, .inl (fun k9 => iI (x9.2.2.2.labelTypes k9)))), (aBV_unreachable, .inl (cZ, 101, .inl (fun k9 => bI (x9.2.2.2.unreachable k9))))]) (fun _ => False))) ([.ref aBV, .int (iI v_at)] : List Value).toArray s 0 0 A) (F0 m 42 ls [])) [(aCo, .inr (9, [.int (iI zCo.size), .ref aCo_ops, .ref aCo_values, .ref aCo_extras, .ref aCo_ends, .ref aCo_elses, .ref aCo_heights, .ref aCo_targets, .int (iI zCo.labelCount), .ref aCo_labels, .ref aCo_labelTargets])), (aCo_values, .inl (cJ, 2000, .inr (.inl zCo.values))), (aCo_extras, .inl (cI, 2000, .inl (fun k9 => iI (zCo.extras k9)))), (aCo_heights, .inl (cI, 2000, .inl (fun k9 => iI (zCt_8.heights k9)))), (aCo_targets, .inl (cI, 2000, .inl (fun k9 => iI (zCt_8.targets k9)))), (aCo_labels, .inl (cI, 2000, .inl (fun k9 => iI (zCo.labels k9)))), (aCo_labelTargets, .inl (cI, 2000, .inl (fun k9 => iI (zCt_8.labelTargets k9)))), (aBV_types, .inl (cI, 2000, .inl (fun k9 => iI (zBt.types k9)))), (aBV_openers, .inl (cI, 101, .inl (fun k9 => iI (zBo.openers k9)))), (aBV_bases, .inl (cI, 101, .inl (fun k9 => iI (zBo.bases k9)))), (aBV_blockTypes, .inl (cI, 101, .inl (fun k9 => iI (zBo.blockTypes k9)))), (aBV_labelTypes, .inl (cI, 101, .inl (fun k9 => iI (zBo.labelTypes k9)))), (aBV_unreachable, .inl (cZ, 101, .inl (fun k9 => bI (zBo.unreachable k9)))), (aBV, .inr (5, [.ref aWa, .ref aCo, .int (iI zBV.function), .ref aBV_types, .int (iI zBt.height), .ref aBV_openers, .ref aBV_bases, .ref aBV_blockTypes, .ref aBV_labelTypes, .ref aBV_unreachable, .int (iI zBo.openCount), .int (bI zBV.failed)]))] := by
    intro n_6
    induction n_6 with
    | zero => intro zCt_8 w_k_9  hzCt_8 hw_k_9 hf; exact absurd hf.symm hnb
    | succ n_6 ih_42 =>
      intro zCt_8 w_k_9  hzCt_8 hw_k_9 hf H_20 locs_20 hP_20 hD_20 hS_20 ls hl
      clear hS_1 hD_1 hP_1
      rw [L42_BV_checkTable.eq_2] at hf
      refine lv_iload hx hb d_BV_checkTable_42 (lv_at hl 5 rfl) ?_
      refine lv_iload_n hx hb d_BV_checkTable_44 rfl (lv_at hl 3 rfl) ?_
      refine lv_icmp_gt (tgt := 121) hx hb d_BV_checkTable_45 (by decide) (fun c_10 => ?_) (fun c_10 => ?_)
      · have c_10 := ((zv_lt (iI_t (R32_of _)) (iI_t hw_k_9))).mp c_10
        replace hf := ifp c_10 hf
        refine lv_aload_n hx hb d_BV_checkTable_121 rfl (lv_at hl 0 rfl) ?_
        refine lv_bipush (v := iI 127) hx hb d_BV_checkTable_122 (by decide) ?_
        replace hf := obE hnb hf
        obtain ⟨x_11, e_12, hf⟩ := hf
        refine xx_callV (wc := [(aBV, .inr (5, [.ref aWa, .ref aCo, .int (iI zBV.function), .ref aBV_types, .int (iI zBt.height), .ref aBV_openers, .ref aBV_bases, .ref aBV_blockTypes, .ref aBV_labelTypes, .ref aBV_unreachable, .int (iI zBo.openCount), .int (bI zBV.failed)])), (aBV_types, .inl (cI, 2000, .inl (fun k9 => iI (zBt.types k9)))), (aBV_bases, .inl (cI, 101, .inl (fun k9 => iI (zBo.bases k9)))), (aBV_unreachable, .inl (cZ, 101, .inl (fun k9 => bI (zBo.unreachable k9))))]) (wr := [(aCo, .inr (9, [.int (iI zCo.size), .ref aCo_ops, .ref aCo_values, .ref aCo_extras, .ref aCo_ends, .ref aCo_elses, .ref aCo_heights, .ref aCo_targets, .int (iI zCo.labelCount), .ref aCo_labels, .ref aCo_labelTargets])), (aCo_values, .inl (cJ, 2000, .inr (.inl zCo.values))), (aCo_extras, .inl (cI, 2000, .inl (fun k9 => iI (zCo.extras k9)))), (aCo_heights, .inl (cI, 2000, .inl (fun k9 => iI (zCt_8.heights k9)))), (aCo_targets, .inl (cI, 2000, .inl (fun k9 => iI (zCt_8.targets k9)))), (aCo_labels, .inl (cI, 2000, .inl (fun k9 => iI (zCo.labels k9)))), (aCo_labelTargets, .inl (cI, 2000, .inl (fun k9 => iI (zCt_8.labelTargets k9)))), (aBV_openers, .inl (cI, 101, .inl (fun k9 => iI (zBo.openers k9)))), (aBV_blockTypes, .inl (cI, 101, .inl (fun k9 => iI (zBo.blockTypes k9)))), (aBV_labelTypes, .inl (cI, 101, .inl (fun k9 => iI (zBo.labelTypes k9))))]) (As := [.int (iI 127)]) (rest := []) ⟨hx, hb, hml, hown, hts⟩ xE_st hK hE hA (k_BV_pop l htr G cB cI cJ cZ cG aBV aWa aCo aBV_types aBV_openers aBV_bases aBV_blockTypes aBV_labelTypes aBV_unreachable zBV zBt zBo hzBV hzBt hzBo 127 (show R32 (127) by decide) (.ret x_11) e_12 ret_nb _) (xw_V 1 hts m_804 m_806 ms_BV_pop m_6 m_807 (by decide +kernel) ⟨(Nat.le_of_ble_eq_true rfl), (Nat.le_of_ble_eq_true rfl)⟩) hP_20 hD_20 hS_20 [13, 7, 9, 12] [0, 1, 2, 3, 4, 5, 6, 8, 10, 11] rfl rfl (by decide +kernel) (by decide +kernel) (by decide +kernel) 0 5 rfl rfl rfl rfl hl.1 rfl (Nat.le_of_ble_eq_true rfl) d_BV_checkTable_124 ⟨(Nat.le_of_ble_eq_true rfl), (Nat.le_of_ble_eq_true rfl)⟩ (fun v9 w9 H_21 locs_21 hp hP_21 hD_21 hS_21 => ?_) (fun x9 w9 H9 l9 hp _ _ _ => absurd hp (fun q9 => by obtain ⟨-, ho, -⟩ := q9; cases ho))
        clear hS_20 hD_20 hP_20
        obtain ⟨hx_11, ho, rfl⟩ := hp
        cases ho
        have hQ9 : (fun w9 => va_P G classes w9 H_21 ∧ va_D A w9) [(aCo, .inr (9, [.int (iI zCo.size), .ref aCo_ops, .ref aCo_values, .ref aCo_extras, .ref aCo_ends, .ref aCo_elses, .ref aCo_heights, .ref aCo_targets, .int (iI zCo.labelCount), .ref aCo_labels, .ref aCo_labelTargets])), (aCo_values, .inl (cJ, 2000, .inr (.inl zCo.values))), (aCo_extras, .inl (cI, 2000, .inl (fun k9 => iI (zCo.extras k9)))), (aCo_heights, .inl (cI, 2000, .inl (fun k9 => iI (zCt_8.heights k9)))), (aCo_targets, .inl (cI, 2000, .inl (fun k9 => iI (zCt_8.targets k9)))), (aCo_labels, .inl (cI, 2000, .inl (fun k9 => iI (zCo.labels k9)))), (aCo_labelTargets, .inl (cI, 2000, .inl (fun k9 => iI (zCt_8.labelTargets k9)))), (aBV_openers, .inl (cI, 101, .inl (fun k9 => iI (zBo.openers k9)))), (aBV_blockTypes, .inl (cI, 101, .inl (fun k9 => iI (zBo.blockTypes k9)))), (aBV_labelTypes, .inl (cI, 101, .inl (fun k9 => iI (zBo.labelTypes k9)))), (aBV, .inr (5, [.ref aWa, .ref aCo, .int (iI x_11.1.function), .ref aBV_types, .int (iI x_11.2.1.height), .ref aBV_openers, .ref aBV_bases, .ref aBV_blockTypes, .ref aBV_labelTypes, .ref aBV_unreachable, .int (iI zBo.openCount), .int (bI x_11.1.failed)])), (aBV_types, .inl (cI, 2000, .inl (fun k9 => iI (x_11.2.1.types k9)))), (aBV_bases, .inl (cI, 101, .inl (fun k9 => iI (zBo.bases k9)))), (aBV_unreachable, .inl (cZ, 101, .inl (fun k9 => bI (zBo.unreachable k9))))] := ⟨hP_21, hD_21⟩
        clear hP_21 hD_21
        obtain ⟨hP_21, hD_21⟩ := hQ9
        refine lv_pop hx hb d_BV_checkTable_127 rfl ?_
        refine lv_aload_n hx hb d_BV_checkTable_128 rfl (lv_at hl 0 rfl) ?_
        refine lv_aload_n hx hb d_BV_checkTable_129 rfl (lv_at hl 0 rfl) ?_
        refine va_get (D := G) (ci := 5) (v := .ref aBV_labelTypes) (C := R_BV) (T := F_BV) (N := 12) hx hb hts i_BV hown hK hP_21 10 rfl rfl 8 (by decide) (hts _ m_116) (fun _ h9 => h9) rfl d_BV_checkTable_130 ?_
        refine lv_iload hx hb d_BV_checkTable_133 (lv_at hl 4 rfl) ?_
        replace hf := grd hnb hf
        obtain ⟨g_13, hf⟩ := hf
        refine va_iald hx hb hK hP_21 9 1 rfl rfl (vp_in_iI hx_4 g_13) d_BV_checkTable_135 ?_
        refine W.eq (g2 := F0 m 136 ls [.int (iI (zBo.labelTypes x_4.toNat)), .ref aBV]) (by rw [iI_clamp hx_4] <;> rfl) ?_
        replace hf := obE hnb hf
        obtain ⟨x_14, e_15, hf⟩ := hf
        refine xx_callV (wc := [(aBV, .inr (5, [.ref aWa, .ref aCo, .int (iI x_11.1.function), .ref aBV_types, .int (iI x_11.2.1.height), .ref aBV_openers, .ref aBV_bases, .ref aBV_blockTypes, .ref aBV_labelTypes, .ref aBV_unreachable, .int (iI zBo.openCount), .int (bI x_11.1.failed)])), (aBV_types, .inl (cI, 2000, .inl (fun k9 => iI (x_11.2.1.types k9)))), (aBV_bases, .inl (cI, 101, .inl (fun k9 => iI (zBo.bases k9)))), (aBV_unreachable, .inl (cZ, 101, .inl (fun k9 => bI (zBo.unreachable k9))))]) (wr := [(aCo, .inr (9, [.int (iI zCo.size), .ref aCo_ops, .ref aCo_values, .ref aCo_extras, .ref aCo_ends, .ref aCo_elses, .ref aCo_heights, .ref aCo_targets, .int (iI zCo.labelCount), .ref aCo_labels, .ref aCo_labelTargets])), (aCo_values, .inl (cJ, 2000, .inr (.inl zCo.values))), (aCo_extras, .inl (cI, 2000, .inl (fun k9 => iI (zCo.extras k9)))), (aCo_heights, .inl (cI, 2000, .inl (fun k9 => iI (zCt_8.heights k9)))), (aCo_targets, .inl (cI, 2000, .inl (fun k9 => iI (zCt_8.targets k9)))), (aCo_labels, .inl (cI, 2000, .inl (fun k9 => iI (zCo.labels k9)))), (aCo_labelTargets, .inl (cI, 2000, .inl (fun k9 => iI (zCt_8.labelTargets k9)))), (aBV_openers, .inl (cI, 101, .inl (fun k9 => iI (zBo.openers k9)))), (aBV_blockTypes, .inl (cI, 101, .inl (fun k9 => iI (zBo.blockTypes k9)))), (aBV_labelTypes, .inl (cI, 101, .inl (fun k9 => iI (zBo.labelTypes k9))))]) (As := [.int (iI (zBo.labelTypes x_4.toNat))]) (rest := []) ⟨hx, hb, hml, hown, hts⟩ xE_st hK hE hA (k_BV_pop l htr G cB cI cJ cZ cG aBV aWa aCo aBV_types aBV_openers aBV_bases aBV_blockTypes aBV_labelTypes aBV_unreachable x_11.1 x_11.2.1 zBo hx_11.1 hx_11.2.1 hzBo (zBo.labelTypes x_4.toNat) (hzBo.labelTypes _) (.ret x_14) e_15 ret_nb _) (xw_V 1 hts m_804 m_806 ms_BV_pop m_6 m_807 (by decide +kernel) ⟨(Nat.le_of_ble_eq_true rfl), (Nat.le_of_ble_eq_true rfl)⟩) hP_21 hD_21 hS_21 [10, 11, 12, 13] [0, 1, 2, 3, 4, 5, 6, 7, 8, 9] rfl rfl (by decide +kernel) (by decide +kernel) (by decide +kernel) 0 5 rfl rfl rfl rfl hl.1 rfl (Nat.le_of_ble_eq_true rfl) d_BV_checkTable_136 ⟨(Nat.le_of_ble_eq_true rfl), (Nat.le_of_ble_eq_true rfl)⟩ (fun v9 w9 H_22 locs_22 hp hP_22 hD_22 hS_22 => ?_) (fun x9 w9 H9 l9 hp _ _ _ => absurd hp (fun q9 => by obtain ⟨-, ho, -⟩ := q9; cases ho))
        clear hS_21 hD_21 hP_21
        obtain ⟨hx_14, ho, rfl⟩ := hp
        cases ho
        have hQ9 : (fun w9 => va_P G classes w9 H_22 ∧ va_D A w9) [(aCo, .inr (9, [.int (iI zCo.size), .ref aCo_ops, .ref aCo_values, .ref aCo_extras, .ref aCo_ends, .ref aCo_elses, .ref aCo_heights, .ref aCo_targets, .int (iI zCo.labelCount), .ref aCo_labels, .ref aCo_labelTargets])), (aCo_values, .inl (cJ, 2000, .inr (.inl zCo.values))), (aCo_extras, .inl (cI, 2000, .inl (fun k9 => iI (zCo.extras k9)))), (aCo_heights, .inl (cI, 2000, .inl (fun k9 => iI (zCt_8.heights k9)))), (aCo_targets, .inl (cI, 2000, .inl (fun k9 => iI (zCt_8.targets k9)))), (aCo_labels, .inl (cI, 2000, .inl (fun k9 => iI (zCo.labels k9)))), (aCo_labelTargets, .inl (cI, 2000, .inl (fun k9 => iI (zCt_8.labelTargets k9)))), (aBV_openers, .inl (cI, 101, .inl (fun k9 => iI (zBo.openers k9)))), (aBV_blockTypes, .inl (cI, 101, .inl (fun k9 => iI (zBo.blockTypes k9)))), (aBV_labelTypes, .inl (cI, 101, .inl (fun k9 => iI (zBo.labelTypes k9)))), (aBV, .inr (5, [.ref aWa, .ref aCo, .int (iI x_14.1.function), .ref aBV_types, .int (iI x_14.2.1.height), .ref aBV_openers, .ref aBV_bases, .ref aBV_blockTypes, .ref aBV_labelTypes, .ref aBV_unreachable, .int (iI zBo.openCount), .int (bI x_14.1.failed)])), (aBV_types, .inl (cI, 2000, .inl (fun k9 => iI (x_14.2.1.types k9)))), (aBV_bases, .inl (cI, 101, .inl (fun k9 => iI (zBo.bases k9)))), (aBV_unreachable, .inl (cZ, 101, .inl (fun k9 => bI (zBo.unreachable k9))))] := ⟨hP_22, hD_22⟩
        clear hP_22 hD_22
        obtain ⟨hP_22, hD_22⟩ := hQ9
        refine lv_pop hx hb d_BV_checkTable_139 rfl ?_
        refine lv_aload_n hx hb d_BV_checkTable_140 rfl (lv_at hl 0 rfl) ?_
        replace hf := obE hnb hf
        obtain ⟨x_16, e_17, hf⟩ := hf
        refine xx_callV (wc := [(aBV, .inr (5, [.ref aWa, .ref aCo, .int (iI x_14.1.function), .ref aBV_types, .int (iI x_14.2.1.height), .ref aBV_openers, .ref aBV_bases, .ref aBV_blockTypes, .ref aBV_labelTypes, .ref aBV_unreachable, .int (iI zBo.openCount), .int (bI x_14.1.failed)])), (aBV_types, .inl (cI, 2000, .inl (fun k9 => iI (x_14.2.1.types k9)))), (aBV_openers, .inl (cI, 101, .inl (fun k9 => iI (zBo.openers k9)))), (aBV_bases, .inl (cI, 101, .inl (fun k9 => iI (zBo.bases k9)))), (aBV_blockTypes, .inl (cI, 101, .inl (fun k9 => iI (zBo.blockTypes k9)))), (aBV_labelTypes, .inl (cI, 101, .inl (fun k9 => iI (zBo.labelTypes k9)))), (aBV_unreachable, .inl (cZ, 101, .inl (fun k9 => bI (zBo.unreachable k9))))]) (wr := [(aCo, .inr (9, [.int (iI zCo.size), .ref aCo_ops, .ref aCo_values, .ref aCo_extras, .ref aCo_ends, .ref aCo_elses, .ref aCo_heights, .ref aCo_targets, .int (iI zCo.labelCount), .ref aCo_labels, .ref aCo_labelTargets])), (aCo_values, .inl (cJ, 2000, .inr (.inl zCo.values))), (aCo_extras, .inl (cI, 2000, .inl (fun k9 => iI (zCo.extras k9)))), (aCo_heights, .inl (cI, 2000, .inl (fun k9 => iI (zCt_8.heights k9)))), (aCo_targets, .inl (cI, 2000, .inl (fun k9 => iI (zCt_8.targets k9)))), (aCo_labels, .inl (cI, 2000, .inl (fun k9 => iI (zCo.labels k9)))), (aCo_labelTargets, .inl (cI, 2000, .inl (fun k9 => iI (zCt_8.labelTargets k9))))]) (As := []) (rest := []) ⟨hx, hb, hml, hown, hts⟩ xE_st hK hE hA (k_BV_becomeUnreachable l htr G cB cI cJ cZ cG aBV aWa aCo aBV_types aBV_openers aBV_bases aBV_blockTypes aBV_labelTypes aBV_unreachable x_14.1 x_14.2.1 zBo hx_14.1 hx_14.2.1 hzBo (.ret x_16) e_17 ret_nb _) (xw_V 0 hts m_800 m_802 ms_BV_becomeUnreachable m_6 m_803 (by decide +kernel) ⟨(Nat.le_of_ble_eq_true rfl), (Nat.le_of_ble_eq_true rfl)⟩) hP_22 hD_22 hS_22 [10, 11, 7, 12, 8, 9, 13] [0, 1, 2, 3, 4, 5, 6] rfl rfl (by decide +kernel) (by decide +kernel) (by decide +kernel) 0 5 rfl rfl rfl rfl hl.1 rfl (Nat.le_of_ble_eq_true rfl) d_BV_checkTable_141 ⟨(Nat.le_of_ble_eq_true rfl), (Nat.le_of_ble_eq_true rfl)⟩ (fun v9 w9 H_23 locs_23 hp hP_23 hD_23 hS_23 => ?_) (fun x9 w9 H9 l9 hp _ _ _ => absurd hp (fun q9 => by obtain ⟨-, ho, -⟩ := q9; cases ho))
        clear hS_22 hD_22 hP_22
        obtain ⟨hx_16, ho, rfl⟩ := hp
        cases ho
        have hQ9 : (fun w9 => va_P G classes w9 H_23 ∧ va_D A w9) [(aCo, .inr (9, [.int (iI zCo.size), .ref aCo_ops, .ref aCo_values, .ref aCo_extras, .ref aCo_ends, .ref aCo_elses, .ref aCo_heights, .ref aCo_targets, .int (iI zCo.labelCount), .ref aCo_labels, .ref aCo_labelTargets])), (aCo_values, .inl (cJ, 2000, .inr (.inl zCo.values))), (aCo_extras, .inl (cI, 2000, .inl (fun k9 => iI (zCo.extras k9)))), (aCo_heights, .inl (cI, 2000, .inl (fun k9 => iI (zCt_8.heights k9)))), (aCo_targets, .inl (cI, 2000, .inl (fun k9 => iI (zCt_8.targets k9)))), (aCo_labels, .inl (cI, 2000, .inl (fun k9 => iI (zCo.labels k9)))), (aCo_labelTargets, .inl (cI, 2000, .inl (fun k9 => iI (zCt_8.labelTargets k9)))), (aBV, .inr (5, [.ref aWa, .ref aCo, .int (iI x_14.1.function), .ref aBV_types, .int (iI x_16.1.height), .ref aBV_openers, .ref aBV_bases, .ref aBV_blockTypes, .ref aBV_labelTypes, .ref aBV_unreachable, .int (iI x_16.2.openCount), .int (bI x_14.1.failed)])), (aBV_types, .inl (cI, 2000, .inl (fun k9 => iI (x_16.1.types k9)))), (aBV_openers, .inl (cI, 101, .inl (fun k9 => iI (x_16.2.openers k9)))), (aBV_bases, .inl (cI, 101, .inl (fun k9 => iI (x_16.2.bases k9)))), (aBV_blockTypes, .inl (cI, 101, .inl (fun k9 => iI (x_16.2.blockTypes k9)))), (aBV_labelTypes, .inl (cI, 101, .inl (fun k9 => iI (x_16.2.labelTypes k9)))), (aBV_unreachable, .inl (cZ, 101, .inl (fun k9 => bI (x_16.2.unreachable k9))))] := ⟨hP_23, hD_23⟩
        clear hP_23 hD_23
        obtain ⟨hP_23, hD_23⟩ := hQ9
        exact ex_W (fun _ h => ex_mq h) (W.vret hx hb hr (fun t ht hW => ⟨⟨_, ozr hf ⟨⟨hzCt_8, hx_14.1, hx_16.1, hx_16.2⟩, rfl, rfl⟩, by rw [ht]; exact hP_23, hD_23⟩, hS_23.F ht⟩) hS_23.2.2 d_BV_checkTable_144)
      · have c_10 := (fun q9 => c_10 (((zv_lt (iI_t (R32_of _)) (iI_t hw_k_9))).mpr q9))
        replace hf := ifn c_10 hf
        refine lv_aload_n hx hb d_BV_checkTable_48 rfl (lv_at hl 0 rfl) ?_
        refine lv_aload_n hx hb d_BV_checkTable_49 rfl (lv_at hl 0 rfl) ?_
        refine va_get (D := G) (ci := 5) (v := .ref aCo) (C := R_BV) (T := F_BV) (N := 12) hx hb hts i_BV hown hK hP_20 13 rfl rfl 1 (by decide) (hts _ m_109) (fun _ h9 => h9) rfl d_BV_checkTable_50 ?_
        refine va_get (D := G) (ci := 9) (v := .ref aCo_labels) (C := R_Co) (T := F_Co) (N := 11) hx hb hts i_Co hown hK hP_20 0 rfl rfl 9 (by decide) (hts _ m_287) (fun _ h9 => h9) rfl d_BV_checkTable_53 ?_
        refine lv_iload hx hb d_BV_checkTable_56 (lv_at hl 5 rfl) ?_
        replace hf := grd hnb hf
        obtain ⟨g_18, hf⟩ := hf
        refine va_iald hx hb hK hP_20 5 1 rfl rfl (vp_in_iI hw_k_9 g_18) d_BV_checkTable_58 ?_
        refine W.eq (g2 := F0 m 59 ls [.int (iI (zCo.labels w_k_9.toNat)), .ref aBV]) (by rw [iI_clamp hw_k_9] <;> rfl) ?_
        refine lv_i2l hx hb d_BV_checkTable_59 rfl ?_
        replace hf := obE hnb hf
        obtain ⟨x_19, e_20, hf⟩ := hf
        refine xx_callV (wc := [(aBV, .inr (5, [.ref aWa, .ref aCo, .int (iI zBV.function), .ref aBV_types, .int (iI zBt.height), .ref aBV_openers, .ref aBV_bases, .ref aBV_blockTypes, .ref aBV_labelTypes, .ref aBV_unreachable, .int (iI zBo.openCount), .int (bI zBV.failed)]))]) (wr := [(aCo, .inr (9, [.int (iI zCo.size), .ref aCo_ops, .ref aCo_values, .ref aCo_extras, .ref aCo_ends, .ref aCo_elses, .ref aCo_heights, .ref aCo_targets, .int (iI zCo.labelCount), .ref aCo_labels, .ref aCo_labelTargets])), (aCo_values, .inl (cJ, 2000, .inr (.inl zCo.values))), (aCo_extras, .inl (cI, 2000, .inl (fun k9 => iI (zCo.extras k9)))), (aCo_heights, .inl (cI, 2000, .inl (fun k9 => iI (zCt_8.heights k9)))), (aCo_targets, .inl (cI, 2000, .inl (fun k9 => iI (zCt_8.targets k9)))), (aCo_labels, .inl (cI, 2000, .inl (fun k9 => iI (zCo.labels k9)))), (aCo_labelTargets, .inl (cI, 2000, .inl (fun k9 => iI (zCt_8.labelTargets k9)))), (aBV_types, .inl (cI, 2000, .inl (fun k9 => iI (zBt.types k9)))), (aBV_openers, .inl (cI, 101, .inl (fun k9 => iI (zBo.openers k9)))), (aBV_bases, .inl (cI, 101, .inl (fun k9 => iI (zBo.bases k9)))), (aBV_blockTypes, .inl (cI, 101, .inl (fun k9 => iI (zBo.blockTypes k9)))), (aBV_labelTypes, .inl (cI, 101, .inl (fun k9 => iI (zBo.labelTypes k9)))), (aBV_unreachable, .inl (cZ, 101, .inl (fun k9 => bI (zBo.unreachable k9))))]) (As := [.long ((iI (zCo.labels w_k_9.toNat)).toInt64)]) (rest := []) ⟨hx, hb, hml, hown, hts⟩ xE_st hK hE hA (k_BV_levelOf l htr G cB cI cJ cZ cG aBV aWa aCo aBV_types aBV_openers aBV_bases aBV_blockTypes aBV_labelTypes aBV_unreachable zBV zBt zBo hzBV hzBt hzBo ((iI (zCo.labels w_k_9.toNat)).toInt64) (.ret x_19) e_20 ret_nb _) (xw_V 1 hts m_816 m_818 ms_BV_levelOf m_6 m_819 (by decide +kernel) ⟨(Nat.le_of_ble_eq_true rfl), (Nat.le_of_ble_eq_true rfl)⟩) hP_20 hD_20 hS_20 [13] [0, 1, 2, 3, 4, 5, 6, 7, 8, 9, 10, 11, 12] rfl rfl (by decide +kernel) (by decide +kernel) (by decide +kernel) 0 5 rfl rfl rfl rfl hl.1 rfl (Nat.le_of_ble_eq_true rfl) d_BV_checkTable_60 ⟨(Nat.le_of_ble_eq_true rfl), (Nat.le_of_ble_eq_true rfl)⟩ (fun v9 w9 H_24 locs_24 hp hP_24 hD_24 hS_24 => ?_) (fun x9 w9 H9 l9 hp _ _ _ => absurd hp (fun q9 => by obtain ⟨-, ho, -⟩ := q9; cases ho))
        clear hS_20 hD_20 hP_20
        obtain ⟨hx_19, ho, rfl⟩ := hp
        cases ho
        have hQ9 : (fun w9 => va_P G classes w9 H_24 ∧ va_D A w9) [(aCo, .inr (9, [.int (iI zCo.size), .ref aCo_ops, .ref aCo_values, .ref aCo_extras, .ref aCo_ends, .ref aCo_elses, .ref aCo_heights, .ref aCo_targets, .int (iI zCo.labelCount), .ref aCo_labels, .ref aCo_labelTargets])), (aCo_values, .inl (cJ, 2000, .inr (.inl zCo.values))), (aCo_extras, .inl (cI, 2000, .inl (fun k9 => iI (zCo.extras k9)))), (aCo_heights, .inl (cI, 2000, .inl (fun k9 => iI (zCt_8.heights k9)))), (aCo_targets, .inl (cI, 2000, .inl (fun k9 => iI (zCt_8.targets k9)))), (aCo_labels, .inl (cI, 2000, .inl (fun k9 => iI (zCo.labels k9)))), (aCo_labelTargets, .inl (cI, 2000, .inl (fun k9 => iI (zCt_8.labelTargets k9)))), (aBV_types, .inl (cI, 2000, .inl (fun k9 => iI (zBt.types k9)))), (aBV_openers, .inl (cI, 101, .inl (fun k9 => iI (zBo.openers k9)))), (aBV_bases, .inl (cI, 101, .inl (fun k9 => iI (zBo.bases k9)))), (aBV_blockTypes, .inl (cI, 101, .inl (fun k9 => iI (zBo.blockTypes k9)))), (aBV_labelTypes, .inl (cI, 101, .inl (fun k9 => iI (zBo.labelTypes k9)))), (aBV_unreachable, .inl (cZ, 101, .inl (fun k9 => bI (zBo.unreachable k9)))), (aBV, .inr (5, [.ref aWa, .ref aCo, .int (iI zBV.function), .ref aBV_types, .int (iI zBt.height), .ref aBV_openers, .ref aBV_bases, .ref aBV_blockTypes, .ref aBV_labelTypes, .ref aBV_unreachable, .int (iI zBo.openCount), .int (bI zBV.failed)]))] := ⟨hP_24, hD_24⟩
        clear hP_24 hD_24
        obtain ⟨hP_24, hD_24⟩ := hQ9
        refine lv_istore (lv' := [(6, .int (iI x_19)), (0, .ref aBV), (1, .int (iI v_at)), (2, .int (iI (zCo.extras v_at.toNat))), (3, .int (iI (((iI (zCo.extras v_at.toNat)) + ((zCo.values v_at.toNat).toInt32)).toInt))), (4, .int (iI x_4)), (5, .int (iI w_k_9))]) hx hb d_BV_checkTable_63 hl (by decide) rfl (fun ls hl => ?_)
        refine lv_iload hx hb d_BV_checkTable_65 (lv_at hl 0 rfl) ?_
        refine jpE hf (fun K_22 hK_22 hf9 => ?_)
        replace hf := hf9
        clear hf9
        have hJK_22 : ∀ (y_21 : Unit), True → K_22 y_21 = R9 → ∀ (H_24 : Heap) (locs_24 : List Loc), (fun w9 => va_P G classes w9 H_24 → va_D A w9 → va_S A s.heap H_24 locs_24 → ∀ (ls : Array Slot), lv_has ls 7 [(0, .ref aBV), (1, .int (iI v_at)), (2, .int (iI (zCo.extras v_at.toNat))), (3, .int (iI (((iI (zCo.extras v_at.toNat)) + ((zCo.values v_at.toNat).toInt32)).toInt))), (4, .int (iI x_4)), (5, .int (iI w_k_9)), (6, .int (iI x_19))] → W p l e (headSpec (wx y_BV_checkTable b_BV_checkTable 7 none) { frames := 1, cells := 0, slots := 0, locals := 22 }).room s m ([.ref aBV, .int (iI v_at)] : List Value).toArray below meth c H_24 locs_24 0 0 (MX below (XQ G classes A (fun o w1 => ozp R9 (fun x9 => (KCt.Ok x9.1 ∧ KBV.Ok x9.2.1 ∧ KBt.Ok x9.2.2.1 ∧ KBo.Ok x9.2.2.2) ∧ o = .returned none ∧ w1 = [(aCo, .inr (9, [.int (iI zCo.size), .ref aCo_ops, .ref aCo_values, .ref aCo_extras, .ref aCo_ends, .ref aCo_elses, .ref aCo_heights, .ref aCo_targets, .int (iI zCo.labelCount), .ref aCo_labels, .ref aCo_labelTargets])), (aCo_values, .inl (cJ, 2000, .inr (.inl zCo.values))), (aCo_extras, .inl (cI, 2000, .inl (fun k9 => iI (zCo.extras k9)))), (aCo_heights, .inl (cI, 2000, .inl (fun k9 => iI (x9.1.heights k9)))), (aCo_targets, .inl (cI, 2000, .inl (fun k9 => iI (x9.1.targets k9)))), (aCo_labels, .inl (cI, 2000, .inl (fun k9 => iI (zCo.labels k9)))), (aCo_labelTargets, .inl (cI, 2000, .inl (fun k9 => iI (x9.1.labelTargets k9)))), (aBV, .inr (5, [.ref aWa, .ref aCo, .int (iI x9.2.1.function), .ref aBV_types, .int (iI x9.2.2.1.height), .ref aBV_openers, .ref aBV_bases, .ref aBV_blockTypes, .ref aBV_labelTypes, .ref aBV_unreachable, .int (iI x9.2.2.2.openCount), .int (bI x9.2.1.failed)])), (aBV_types, .inl (cI, 2000, .inl (fun k9 => iI (x9.2.2.1.types k9)))), (aBV_openers, .inl (cI, 101, .inl (fun k9 => iI (x9.2.2.2.openers k9)))), (aBV_bases, .inl (cI, 101, .inl (fun k9 => iI (x9.2.2.2.bases k9)))), (aBV_blockTypes, .inl (cI, 101, .inl (fun k9 => iI (x9.2.2.2.blockTypes k9)))), (aBV_labelTypes, .inl (cI, 101, .inl (fun k9 => iI (x9.2.2.2.labelTypes k9)))), (aBV_unreachable, .inl (cZ, 101, .inl (fun k9 => bI (x9.2.2.2.unreachable k9))))]) (fun _ => False))) ([.ref aBV, .int (iI v_at)] : List Value).toArray s 0 0 A) (F0 m 92 ls [])) [(aCo, .inr (9, [.int (iI zCo.size), .ref aCo_ops, .ref aCo_values, .ref aCo_extras, .ref aCo_ends, .ref aCo_elses, .ref aCo_heights, .ref aCo_targets, .int (iI zCo.labelCount), .ref aCo_labels, .ref aCo_labelTargets])), (aCo_values, .inl (cJ, 2000, .inr (.inl zCo.values))), (aCo_extras, .inl (cI, 2000, .inl (fun k9 => iI (zCo.extras k9)))), (aCo_heights, .inl (cI, 2000, .inl (fun k9 => iI (zCt_8.heights k9)))), (aCo_targets, .inl (cI, 2000, .inl (fun k9 => iI (zCt_8.targets k9)))), (aCo_labels, .inl (cI, 2000, .inl (fun k9 => iI (zCo.labels k9)))), (aCo_labelTargets, .inl (cI, 2000, .inl (fun k9 => iI (zCt_8.labelTargets k9)))), (aBV_types, .inl (cI, 2000, .inl (fun k9 => iI (zBt.types k9)))), (aBV_openers, .inl (cI, 101, .inl (fun k9 => iI (zBo.openers k9)))), (aBV_bases, .inl (cI, 101, .inl (fun k9 => iI (zBo.bases k9)))), (aBV_blockTypes, .inl (cI, 101, .inl (fun k9 => iI (zBo.blockTypes k9)))), (aBV_labelTypes, .inl (cI, 101, .inl (fun k9 => iI (zBo.labelTypes k9)))), (aBV_unreachable, .inl (cZ, 101, .inl (fun k9 => bI (zBo.unreachable k9)))), (aBV, .inr (5, [.ref aWa, .ref aCo, .int (iI zBV.function), .ref aBV_types, .int (iI zBt.height), .ref aBV_openers, .ref aBV_bases, .ref aBV_blockTypes, .ref aBV_labelTypes, .ref aBV_unreachable, .int (iI zBo.openCount), .int (bI zBV.failed)]))] := by
          intro y_21 hy_21 hf H_27 locs_27 hP_27 hD_27 hS_27 ls hl
          clear hS_24 hD_24 hP_24
          replace hf := (congrFun hK_22 y_21).symm.trans hf
          clear hK_22
          refine lv_aload_n hx hb d_BV_checkTable_92 rfl (lv_at hl 0 rfl) ?_
          refine lv_iconst (v := iI 1) hx hb d_BV_checkTable_93 (by decide) ?_
          refine W.eq (g2 := F0 m 94 ls [.int (bI true), .ref aBV]) (by rfl) ?_
          refine va_put (D := G) (ci := 5) (v := .int (bI true)) (ty := .boolean) (C := R_BV) (T := F_BV) (N := 12) hx hb hts i_BV t_BV t_BV_ok n_BV hown hK hP_27 hD_27 hS_27 13 rfl rfl 11 (by decide) (hts _ m_119) (fun _ h9 => h9) rfl (by decide +kernel) (bI_nar _) (bI_fit _) (Nat.le_of_ble_eq_true rfl) d_BV_checkTable_94 (fun H_28 locs_28 hP_28 hD_28 hS_28 => ?_)
          clear hS_27 hD_27 hP_27
          have hQ9 : (fun w9 => va_P G classes w9 H_28 ∧ va_D A w9) [(aCo, .inr (9, [.int (iI zCo.size), .ref aCo_ops, .ref aCo_values, .ref aCo_extras, .ref aCo_ends, .ref aCo_elses, .ref aCo_heights, .ref aCo_targets, .int (iI zCo.labelCount), .ref aCo_labels, .ref aCo_labelTargets])), (aCo_values, .inl (cJ, 2000, .inr (.inl zCo.values))), (aCo_extras, .inl (cI, 2000, .inl (fun k9 => iI (zCo.extras k9)))), (aCo_heights, .inl (cI, 2000, .inl (fun k9 => iI (zCt_8.heights k9)))), (aCo_targets, .inl (cI, 2000, .inl (fun k9 => iI (zCt_8.targets k9)))), (aCo_labels, .inl (cI, 2000, .inl (fun k9 => iI (zCo.labels k9)))), (aCo_labelTargets, .inl (cI, 2000, .inl (fun k9 => iI (zCt_8.labelTargets k9)))), (aBV_types, .inl (cI, 2000, .inl (fun k9 => iI (zBt.types k9)))), (aBV_openers, .inl (cI, 101, .inl (fun k9 => iI (zBo.openers k9)))), (aBV_bases, .inl (cI, 101, .inl (fun k9 => iI (zBo.bases k9)))), (aBV_blockTypes, .inl (cI, 101, .inl (fun k9 => iI (zBo.blockTypes k9)))), (aBV_labelTypes, .inl (cI, 101, .inl (fun k9 => iI (zBo.labelTypes k9)))), (aBV_unreachable, .inl (cZ, 101, .inl (fun k9 => bI (zBo.unreachable k9)))), (aBV, .inr (5, [.ref aWa, .ref aCo, .int (iI zBV.function), .ref aBV_types, .int (iI zBt.height), .ref aBV_openers, .ref aBV_bases, .ref aBV_blockTypes, .ref aBV_labelTypes, .ref aBV_unreachable, .int (iI zBo.openCount), .int (bI true)]))] := ⟨hP_28, hD_28⟩
          clear hP_28 hD_28
          obtain ⟨hP_28, hD_28⟩ := hQ9
          have hP_28 := hP_28.sub (ws' := [(aCo, .inr (9, [.int (iI zCo.size), .ref aCo_ops, .ref aCo_values, .ref aCo_extras, .ref aCo_ends, .ref aCo_elses, .ref aCo_heights, .ref aCo_targets, .int (iI zCo.labelCount), .ref aCo_labels, .ref aCo_labelTargets])), (aCo_values, .inl (cJ, 2000, .inr (.inl zCo.values))), (aCo_extras, .inl (cI, 2000, .inl (fun k9 => iI (zCo.extras k9)))), (aCo_heights, .inl (cI, 2000, .inl (fun k9 => iI (zCt_8.heights k9)))), (aCo_targets, .inl (cI, 2000, .inl (fun k9 => iI (zCt_8.targets k9)))), (aCo_labels, .inl (cI, 2000, .inl (fun k9 => iI (zCo.labels k9)))), (aCo_labelTargets, .inl (cI, 2000, .inl (fun k9 => iI (zCt_8.labelTargets k9)))), (aBV, .inr (5, [.ref aWa, .ref aCo, .int (iI zBV.function), .ref aBV_types, .int (iI zBt.height), .ref aBV_openers, .ref aBV_bases, .ref aBV_blockTypes, .ref aBV_labelTypes, .ref aBV_unreachable, .int (iI zBo.openCount), .int (bI true)])), (aBV_types, .inl (cI, 2000, .inl (fun k9 => iI (zBt.types k9)))), (aBV_openers, .inl (cI, 101, .inl (fun k9 => iI (zBo.openers k9)))), (aBV_bases, .inl (cI, 101, .inl (fun k9 => iI (zBo.bases k9)))), (aBV_blockTypes, .inl (cI, 101, .inl (fun k9 => iI (zBo.blockTypes k9)))), (aBV_labelTypes, .inl (cI, 101, .inl (fun k9 => iI (zBo.labelTypes k9)))), (aBV_unreachable, .inl (cZ, 101, .inl (fun k9 => bI (zBo.unreachable k9))))]) [0, 1, 2, 3, 4, 5, 6, 13, 7, 8, 9, 10, 11, 12] rfl
          have hD_28 := hD_28.sub (ws' := [(aCo, .inr (9, [.int (iI zCo.size), .ref aCo_ops, .ref aCo_values, .ref aCo_extras, .ref aCo_ends, .ref aCo_elses, .ref aCo_heights, .ref aCo_targets, .int (iI zCo.labelCount), .ref aCo_labels, .ref aCo_labelTargets])), (aCo_values, .inl (cJ, 2000, .inr (.inl zCo.values))), (aCo_extras, .inl (cI, 2000, .inl (fun k9 => iI (zCo.extras k9)))), (aCo_heights, .inl (cI, 2000, .inl (fun k9 => iI (zCt_8.heights k9)))), (aCo_targets, .inl (cI, 2000, .inl (fun k9 => iI (zCt_8.targets k9)))), (aCo_labels, .inl (cI, 2000, .inl (fun k9 => iI (zCo.labels k9)))), (aCo_labelTargets, .inl (cI, 2000, .inl (fun k9 => iI (zCt_8.labelTargets k9)))), (aBV, .inr (5, [.ref aWa, .ref aCo, .int (iI zBV.function), .ref aBV_types, .int (iI zBt.height), .ref aBV_openers, .ref aBV_bases, .ref aBV_blockTypes, .ref aBV_labelTypes, .ref aBV_unreachable, .int (iI zBo.openCount), .int (bI true)])), (aBV_types, .inl (cI, 2000, .inl (fun k9 => iI (zBt.types k9)))), (aBV_openers, .inl (cI, 101, .inl (fun k9 => iI (zBo.openers k9)))), (aBV_bases, .inl (cI, 101, .inl (fun k9 => iI (zBo.bases k9)))), (aBV_blockTypes, .inl (cI, 101, .inl (fun k9 => iI (zBo.blockTypes k9)))), (aBV_labelTypes, .inl (cI, 101, .inl (fun k9 => iI (zBo.labelTypes k9)))), (aBV_unreachable, .inl (cZ, 101, .inl (fun k9 => bI (zBo.unreachable k9))))]) [0, 1, 2, 3, 4, 5, 6, 13, 7, 8, 9, 10, 11, 12] (by decide +kernel) rfl
          exact ex_W (fun _ h => ex_mq h) (W.vret hx hb hr (fun t ht hW => ⟨⟨_, ozr hf ⟨⟨hzCt_8, (KBV.Ok.mk hzBV.function : KBV.Ok (KBV.mk zBV.function true)), hzBt, hzBo⟩, rfl, rfl⟩, by rw [ht]; exact hP_28, hD_28⟩, hS_28.F ht⟩) hS_28.2.2 d_BV_checkTable_97)
        clear hK_22
        refine lv_if_lt (tgt := 92) hx hb d_BV_checkTable_67 (by decide) (fun c_23 => ?_) (fun c_23 => ?_)
        · have c_23 := ((zv_lt (iI_t hx_19) zero_v)).mp c_23
          replace hf := ifp c_23 hf
          exact hJK_22 () trivial hf _ _ hP_24 hD_24 hS_24 _ (lv_sub hl [1, 2, 3, 4, 5, 6, 0] rfl)
        · have c_23 := (fun q9 => c_23 (((zv_lt (iI_t hx_19) zero_v)).mpr q9))
          replace hf := ifn c_23 hf
          refine lv_iload hx hb d_BV_checkTable_70 (lv_at hl 5 rfl) ?_
          refine lv_if_lt (tgt := 92) hx hb d_BV_checkTable_72 (by decide) (fun c_24 => ?_) (fun c_24 => ?_)
          · have c_24 := ((zv_lt (iI_t hx_4) zero_v)).mp c_24
            replace hf := ifp c_24 hf
            exact hJK_22 () trivial hf _ _ hP_24 hD_24 hS_24 _ (lv_sub hl [1, 2, 3, 4, 5, 6, 0] rfl)
          · have c_24 := (fun q9 => c_24 (((zv_lt (iI_t hx_4) zero_v)).mpr q9))
            replace hf := ifn c_24 hf
            refine lv_aload_n hx hb d_BV_checkTable_75 rfl (lv_at hl 1 rfl) ?_
            refine va_get (D := G) (ci := 5) (v := .ref aBV_labelTypes) (C := R_BV) (T := F_BV) (N := 12) hx hb hts i_BV hown hK hP_24 13 rfl rfl 8 (by decide) (hts _ m_116) (fun _ h9 => h9) rfl d_BV_checkTable_76 ?_
            refine lv_iload hx hb d_BV_checkTable_79 (lv_at hl 0 rfl) ?_
            replace hf := grd hnb hf
            obtain ⟨g_25, hf⟩ := hf
            refine va_iald hx hb hK hP_24 11 1 rfl rfl (vp_in_iI hx_19 g_25) d_BV_checkTable_81 ?_
            refine W.eq (g2 := F0 m 82 ls [.int (iI (zBo.labelTypes x_19.toNat))]) (by rw [iI_clamp hx_19] <;> rfl) ?_
            refine lv_aload_n hx hb d_BV_checkTable_82 rfl (lv_at hl 1 rfl) ?_
            refine va_get (D := G) (ci := 5) (v := .ref aBV_labelTypes) (C := R_BV) (T := F_BV) (N := 12) hx hb hts i_BV hown hK hP_24 13 rfl rfl 8 (by decide) (hts _ m_116) (fun _ h9 => h9) rfl d_BV_checkTable_83 ?_
            refine lv_iload hx hb d_BV_checkTable_86 (lv_at hl 5 rfl) ?_
            replace hf := grd hnb hf
            obtain ⟨g_26, hf⟩ := hf
            refine va_iald hx hb hK hP_24 11 1 rfl rfl (vp_in_iI hx_4 g_26) d_BV_checkTable_88 ?_
            refine W.eq (g2 := F0 m 89 ls [.int (iI (zBo.labelTypes x_4.toNat)), .int (iI (zBo.labelTypes x_19.toNat))]) (by rw [iI_clamp hx_4] <;> rfl) ?_
            refine lv_icmp_eq (tgt := 98) hx hb d_BV_checkTable_89 (by decide) (fun c_27 => ?_) (fun c_27 => ?_)
            · have c_27 := ((zv_eq (iI_t (hzBo.labelTypes _)) (iI_t (hzBo.labelTypes _)))).mp c_27
              replace hf := ifp c_27 hf
              refine lv_aload_n hx hb d_BV_checkTable_98 rfl (lv_at hl 1 rfl) ?_
              refine va_get (D := G) (ci := 5) (v := .ref aCo) (C := R_BV) (T := F_BV) (N := 12) hx hb hts i_BV hown hK hP_24 13 rfl rfl 1 (by decide) (hts _ m_109) (fun _ h9 => h9) rfl d_BV_checkTable_99 ?_
              refine va_get (D := G) (ci := 9) (v := .ref aCo_labelTargets) (C := R_Co) (T := F_Co) (N := 11) hx hb hts i_Co hown hK hP_24 0 rfl rfl 10 (by decide) (hts _ m_290) (fun _ h9 => h9) rfl d_BV_checkTable_102 ?_
              refine lv_iload hx hb d_BV_checkTable_105 (lv_at hl 6 rfl) ?_
              refine lv_aload_n hx hb d_BV_checkTable_107 rfl (lv_at hl 1 rfl) ?_
              refine va_get (D := G) (ci := 5) (v := .ref aBV_openers) (C := R_BV) (T := F_BV) (N := 12) hx hb hts i_BV hown hK hP_24 13 rfl rfl 5 (by decide) (hts _ m_113) (fun _ h9 => h9) rfl d_BV_checkTable_108 ?_
              refine lv_iload hx hb d_BV_checkTable_111 (lv_at hl 0 rfl) ?_
              replace hf := grd hnb hf
              obtain ⟨g_28, hf⟩ := hf
              refine va_iald hx hb hK hP_24 8 1 rfl rfl (vp_in_iI hx_19 g_28) d_BV_checkTable_113 ?_
              refine W.eq (g2 := F0 m 114 ls [.int (iI (zBo.openers x_19.toNat)), .int (iI w_k_9), .ref aCo_labelTargets]) (by rw [iI_clamp hx_19] <;> rfl) ?_
              replace hf := grd hnb hf
              obtain ⟨g_29, hf⟩ := hf
              refine va_iast hx hb hK hP_24 hD_24 hS_24 6 1 rfl rfl (vp_in_iI hw_k_9 g_29) d_BV_checkTable_114 (fun H_29 locs_29 hP_29 hD_29 hS_29 => ?_)
              clear hS_24 hD_24 hP_24
              rw [iI_clamp hw_k_9, upd_iI] at hP_29 hD_29
              have hQ9 : (fun w9 => va_P G classes w9 H_29 ∧ va_D A w9) [(aCo, .inr (9, [.int (iI zCo.size), .ref aCo_ops, .ref aCo_values, .ref aCo_extras, .ref aCo_ends, .ref aCo_elses, .ref aCo_heights, .ref aCo_targets, .int (iI zCo.labelCount), .ref aCo_labels, .ref aCo_labelTargets])), (aCo_values, .inl (cJ, 2000, .inr (.inl zCo.values))), (aCo_extras, .inl (cI, 2000, .inl (fun k9 => iI (zCo.extras k9)))), (aCo_heights, .inl (cI, 2000, .inl (fun k9 => iI (zCt_8.heights k9)))), (aCo_targets, .inl (cI, 2000, .inl (fun k9 => iI (zCt_8.targets k9)))), (aCo_labels, .inl (cI, 2000, .inl (fun k9 => iI (zCo.labels k9)))), (aCo_labelTargets, .inl (cI, 2000, .inl (fun k9 => iI ((updZ zCt_8.labelTargets w_k_9.toNat (zBo.openers x_19.toNat)) k9)))), (aBV_types, .inl (cI, 2000, .inl (fun k9 => iI (zBt.types k9)))), (aBV_openers, .inl (cI, 101, .inl (fun k9 => iI (zBo.openers k9)))), (aBV_bases, .inl (cI, 101, .inl (fun k9 => iI (zBo.bases k9)))), (aBV_blockTypes, .inl (cI, 101, .inl (fun k9 => iI (zBo.blockTypes k9)))), (aBV_labelTypes, .inl (cI, 101, .inl (fun k9 => iI (zBo.labelTypes k9)))), (aBV_unreachable, .inl (cZ, 101, .inl (fun k9 => bI (zBo.unreachable k9)))), (aBV, .inr (5, [.ref aWa, .ref aCo, .int (iI zBV.function), .ref aBV_types, .int (iI zBt.height), .ref aBV_openers, .ref aBV_bases, .ref aBV_blockTypes, .ref aBV_labelTypes, .ref aBV_unreachable, .int (iI zBo.openCount), .int (bI zBV.failed)]))] := ⟨hP_29, hD_29⟩
              clear hP_29 hD_29
              obtain ⟨hP_29, hD_29⟩ := hQ9
              replace hf := grd hnb hf
              obtain ⟨g_30, hf⟩ := hf
              refine lv_iinc (v := iI (w_k_9 + 1)) (lv' := [(5, .int (iI (w_k_9 + 1))), (6, .int (iI x_19)), (0, .ref aBV), (1, .int (iI v_at)), (2, .int (iI (zCo.extras v_at.toNat))), (3, .int (iI (((iI (zCo.extras v_at.toNat)) + ((zCo.values v_at.toNat).toInt32)).toInt))), (4, .int (iI x_4))]) hx hb d_BV_checkTable_115 hl (k := 6) rfl (iI_add _ 1) (by decide) rfl (fun ls hl => ?_)
              refine lv_goto (tgt := 42) hx hb d_BV_checkTable_118 (by decide) ?_
              exact ih_42 (KCt.mk zCt_8.heights zCt_8.targets (updZ zCt_8.labelTargets w_k_9.toNat (zBo.openers x_19.toNat))) (w_k_9 + 1) (KCt.Ok.mk hzCt_8.heights hzCt_8.targets (updZ_ok hzCt_8.labelTargets (hzBo.openers _)) : KCt.Ok (KCt.mk zCt_8.heights zCt_8.targets (updZ zCt_8.labelTargets w_k_9.toNat (zBo.openers x_19.toNat)))) g_30 hf _ _ hP_29 hD_29 hS_29 _ (lv_sub hl [2, 3, 4, 5, 6, 0] rfl)
            · have c_27 := (fun q9 => c_27 (((zv_eq (iI_t (hzBo.labelTypes _)) (iI_t (hzBo.labelTypes _)))).mpr q9))
              replace hf := ifn c_27 hf
              exact hJK_22 () trivial hf _ _ hP_24 hD_24 hS_24 _ (lv_sub hl [1, 2, 3, 4, 5, 6, 0] rfl)
  exact loop_42 fu zCt (zCo.extras v_at.toNat) hzCt (hzCo.extras _) hf _ _ hP_1 hD_1 hS_1 _ (lv_sub hl [4, 5, 3, 2, 1, 0] rfl)
set_option maxHeartbeats 8000000 in
set_option maxRecDepth 100000 in
theorem k_BV_checkCall (l : Launch) (htr : l.stackTraces = false) (G : va_G) (cB cI cJ cZ cG : ClassId) (aWa : Nat) (aWa_parameterCounts : Nat) (aWa_parameters : Nat) (aWa_results : Nat) (aWa_functionTypes : Nat) (aWa_starts : Nat) (aWa_localCounts : Nat) (aWa_locals : Nat) (aWa_globalTypes : Nat) (aWa_globalsChange : Nat) (aWa_initialTypes : Nat) (aWa_initialValues : Nat) (aEx : Nat) (aCo : Nat) (aBV : Nat) (aBV_types : Nat) (aBV_openers : Nat) (aBV_bases : Nat) (aBV_blockTypes : Nat) (aBV_labelTypes : Nat) (aBV_unreachable : Nat) (zW1 : KW1) (zW3 : KW3) (zW5 : KW5) (zW6 : KW6) (zBV : KBV) (zBt : KBt) (zBo : KBo) (hzW1 : KW1.Ok zW1) (hzW3 : KW3.Ok zW3) (hzW5 : KW5.Ok zW5) (hzW6 : KW6.Ok zW6) (hzBV : KBV.Ok zBV) (hzBt : KBt.Ok zBt) (hzBo : KBo.Ok zBo) (v_callee : Int64) (fu : Nat) (R9 : Out Empty (KBV × KBt)) (hf : f_BV_checkCall fu zW1 zW3 zBV zBt zBo v_callee = R9) (hnb : R9 ≠ .bad) (sz : Nat) : MetX l y_BV_checkCall (wx y_BV_checkCall b_BV_checkCall 5 none) { frames := 1, cells := 0, slots := 0, locals := 22 } (XP G classes (xtys cB cI cJ cZ cG) xE [.ref aBV, .long v_callee] [(aWa, .inr (7, [.int (iI zW1.typeCount), .ref aWa_parameterCounts, .ref aWa_parameters, .ref aWa_results, .int (iI zW3.functionCount), .ref aWa_functionTypes, .ref aWa_starts, .ref aWa_localCounts, .ref aWa_locals, .int (bI zW5.hasMemory), .long zW5.pagesAtFirst, .long zW5.pagesMost, .int (iI zW6.globalCount), .ref aWa_globalTypes, .ref aWa_globalsChange, .ref aWa_initialTypes, .ref aWa_initialValues, .ref aEx, .ref aCo])), (aWa_parameterCounts, .inl (cI, 20, .inl (fun k9 => iI (zW1.parameterCounts k9)))), (aWa_parameters, .inl (cI, 160, .inl (fun k9 => iI (zW1.parameters k9)))), (aWa_results, .inl (cI, 20, .inl (fun k9 => iI (zW1.results k9)))), (aWa_functionTypes, .inl (cI, 30, .inl (fun k9 => iI (zW3.functionTypes k9)))), (aBV, .inr (5, [.ref aWa, .ref aCo, .int (iI zBV.function), .ref aBV_types, .int (iI zBt.height), .ref aBV_openers, .ref aBV_bases, .ref aBV_blockTypes, .ref aBV_labelTypes, .ref aBV_unreachable, .int (iI zBo.openCount), .int (bI zBV.failed)])), (aBV_types, .inl (cI, 2000, .inl (fun k9 => iI (zBt.types k9)))), (aBV_bases, .inl (cI, 101, .inl (fun k9 => iI (zBo.bases k9)))), (aBV_unreachable, .inl (cZ, 101, .inl (fun k9 => bI (zBo.unreachable k9))))] sz) (XQ G classes (va_A [(aWa, .inr (7, [.int (iI zW1.typeCount), .ref aWa_parameterCounts, .ref aWa_parameters, .ref aWa_results, .int (iI zW3.functionCount), .ref aWa_functionTypes, .ref aWa_starts, .ref aWa_localCounts, .ref aWa_locals, .int (bI zW5.hasMemory), .long zW5.pagesAtFirst, .long zW5.pagesMost, .int (iI zW6.globalCount), .ref aWa_globalTypes, .ref aWa_globalsChange, .ref aWa_initialTypes, .ref aWa_initialValues, .ref aEx, .ref aCo])), (aWa_parameterCounts, .inl (cI, 20, .inl (fun k9 => iI (zW1.parameterCounts k9)))), (aWa_parameters, .inl (cI, 160, .inl (fun k9 => iI (zW1.parameters k9)))), (aWa_results, .inl (cI, 20, .inl (fun k9 => iI (zW1.results k9)))), (aWa_functionTypes, .inl (cI, 30, .inl (fun k9 => iI (zW3.functionTypes k9)))), (aBV, .inr (5, [.ref aWa, .ref aCo, .int (iI zBV.function), .ref aBV_types, .int (iI zBt.height), .ref aBV_openers, .ref aBV_bases, .ref aBV_blockTypes, .ref aBV_labelTypes, .ref aBV_unreachable, .int (iI zBo.openCount), .int (bI zBV.failed)])), (aBV_types, .inl (cI, 2000, .inl (fun k9 => iI (zBt.types k9)))), (aBV_bases, .inl (cI, 101, .inl (fun k9 => iI (zBo.bases k9)))), (aBV_unreachable, .inl (cZ, 101, .inl (fun k9 => bI (zBo.unreachable k9))))] sz) (fun o w1 => ozp R9 (fun x9 => (KBV.Ok x9.1 ∧ KBt.Ok x9.2) ∧ o = .returned none ∧ w1 = [(aWa, .inr (7, [.int (iI zW1.typeCount), .ref aWa_parameterCounts, .ref aWa_parameters, .ref aWa_results, .int (iI zW3.functionCount), .ref aWa_functionTypes, .ref aWa_starts, .ref aWa_localCounts, .ref aWa_locals, .int (bI zW5.hasMemory), .long zW5.pagesAtFirst, .long zW5.pagesMost, .int (iI zW6.globalCount), .ref aWa_globalTypes, .ref aWa_globalsChange, .ref aWa_initialTypes, .ref aWa_initialValues, .ref aEx, .ref aCo])), (aWa_parameterCounts, .inl (cI, 20, .inl (fun k9 => iI (zW1.parameterCounts k9)))), (aWa_parameters, .inl (cI, 160, .inl (fun k9 => iI (zW1.parameters k9)))), (aWa_results, .inl (cI, 20, .inl (fun k9 => iI (zW1.results k9)))), (aWa_functionTypes, .inl (cI, 30, .inl (fun k9 => iI (zW3.functionTypes k9)))), (aBV, .inr (5, [.ref aWa, .ref aCo, .int (iI x9.1.function), .ref aBV_types, .int (iI x9.2.height), .ref aBV_openers, .ref aBV_bases, .ref aBV_blockTypes, .ref aBV_labelTypes, .ref aBV_unreachable, .int (iI zBo.openCount), .int (bI x9.1.failed)])), (aBV_types, .inl (cI, 2000, .inl (fun k9 => iI (x9.2.types k9)))), (aBV_bases, .inl (cI, 101, .inl (fun k9 => iI (zBo.bases k9)))), (aBV_unreachable, .inl (cZ, 101, .inl (fun k9 => bI (zBo.unreachable k9))))]) (fun _ => False))) 0 0 (va_A [(aWa, .inr (7, [.int (iI zW1.typeCount), .ref aWa_parameterCounts, .ref aWa_parameters, .ref aWa_results, .int (iI zW3.functionCount), .ref aWa_functionTypes, .ref aWa_starts, .ref aWa_localCounts, .ref aWa_locals, .int (bI zW5.hasMemory), .long zW5.pagesAtFirst, .long zW5.pagesMost, .int (iI zW6.globalCount), .ref aWa_globalTypes, .ref aWa_globalsChange, .ref aWa_initialTypes, .ref aWa_initialValues, .ref aEx, .ref aCo])), (aWa_parameterCounts, .inl (cI, 20, .inl (fun k9 => iI (zW1.parameterCounts k9)))), (aWa_parameters, .inl (cI, 160, .inl (fun k9 => iI (zW1.parameters k9)))), (aWa_results, .inl (cI, 20, .inl (fun k9 => iI (zW1.results k9)))), (aWa_functionTypes, .inl (cI, 30, .inl (fun k9 => iI (zW3.functionTypes k9)))), (aBV, .inr (5, [.ref aWa, .ref aCo, .int (iI zBV.function), .ref aBV_types, .int (iI zBt.height), .ref aBV_openers, .ref aBV_bases, .ref aBV_blockTypes, .ref aBV_labelTypes, .ref aBV_unreachable, .int (iI zBo.openCount), .int (bI zBV.failed)])), (aBV_types, .inl (cI, 2000, .inl (fun k9 => iI (zBt.types k9)))), (aBV_bases, .inl (cI, 101, .inl (fun k9 => iI (zBo.bases k9)))), (aBV_unreachable, .inl (cZ, 101, .inl (fun k9 => bI (zBo.unreachable k9))))] sz) := by
  refine ex_ofW (cc := b_BV_checkCall) (maxL := 5) (ret := none) (by decide) rfl ?_
  intro p e s m args below meth c s₁ B hml hno hv
  obtain ⟨rfl, hsz, hP, hK, hD0, hE⟩ := hv
  have hx := B.exec
  have hb := B.bytes
  have hr := B.returns
  have hts : ∀ w ∈ lw_good, w.before _ s = true := fun w h => atoms_spec (ws := wx y_BV_checkCall b_BV_checkCall 5 none) B.pre w (List.mem_cons_of_mem _ h)
  have hown : s.vm.findClass R_BV = some m.cls := findClass_of_methodNamed B.named
  have hlocks := B.notSynchronized
  subst hsz
  have hNS := xx_nostat hP
  have hD := hD0.self (sz := s.heap.size)
  generalize hAe : va_A [(aWa, .inr (7, [.int (iI zW1.typeCount), .ref aWa_parameterCounts, .ref aWa_parameters, .ref aWa_results, .int (iI zW3.functionCount), .ref aWa_functionTypes, .ref aWa_starts, .ref aWa_localCounts, .ref aWa_locals, .int (bI zW5.hasMemory), .long zW5.pagesAtFirst, .long zW5.pagesMost, .int (iI zW6.globalCount), .ref aWa_globalTypes, .ref aWa_globalsChange, .ref aWa_initialTypes, .ref aWa_initialValues, .ref aEx, .ref aCo])), (aWa_parameterCounts, .inl (cI, 20, .inl (fun k9 => iI (zW1.parameterCounts k9)))), (aWa_parameters, .inl (cI, 160, .inl (fun k9 => iI (zW1.parameters k9)))), (aWa_results, .inl (cI, 20, .inl (fun k9 => iI (zW1.results k9)))), (aWa_functionTypes, .inl (cI, 30, .inl (fun k9 => iI (zW3.functionTypes k9)))), (aBV, .inr (5, [.ref aWa, .ref aCo, .int (iI zBV.function), .ref aBV_types, .int (iI zBt.height), .ref aBV_openers, .ref aBV_bases, .ref aBV_blockTypes, .ref aBV_labelTypes, .ref aBV_unreachable, .int (iI zBo.openCount), .int (bI zBV.failed)])), (aBV_types, .inl (cI, 2000, .inl (fun k9 => iI (zBt.types k9)))), (aBV_bases, .inl (cI, 101, .inl (fun k9 => iI (zBo.bases k9)))), (aBV_unreachable, .inl (cZ, 101, .inl (fun k9 => bI (zBo.unreachable k9))))] s.heap.size = A at hD hE hNS ⊢
  have hA : ∀ q : Nat, s.heap.size ≤ q → A q := fun q h => by rw [← hAe]; exact Or.inr h
  have hS : va_S A s.heap s.heap [] := va_S.rf
  have hl := lv_entry ([.ref aBV, .long v_callee]) (n := 5) (Nat.le_of_ble_eq_true rfl)
  rw [lg_entry_eq]
  generalize (lg_sl ([.ref aBV, .long v_callee]) ++ List.replicate (5 - (lg_sl ([.ref aBV, .long v_callee])).length) Slot.unset).toArray = ls at hl ⊢
  have hl : lv_has ls 5 [(0, .ref aBV), (1, .long v_callee)] := hl
  unfold f_BV_checkCall at hf
  refine lv_lload_n hx hb d_BV_checkCall_0 rfl (lv_at hl 1 rfl) ?_
  refine lv_aload_n hx hb d_BV_checkCall_1 rfl (lv_at hl 0 rfl) ?_
  refine va_get (D := G) (ci := 5) (v := .ref aWa) (C := R_BV) (T := F_BV) (N := 12) hx hb hts i_BV hown hK hP 5 rfl rfl 0 (by decide) (hts _ m_108) (fun _ h9 => h9) rfl d_BV_checkCall_2 ?_
  refine va_get (D := G) (ci := 7) (v := .int (iI zW3.functionCount)) (C := R_Wa) (T := F_Wa) (N := 19) hx hb hts i_Wa hown hK hP 0 rfl rfl 4 (by decide) (hts _ m_327) (fun _ h9 => h9) rfl d_BV_checkCall_5 ?_
  refine lv_i2l hx hb d_BV_checkCall_8 rfl ?_
  refine W.lcmp hx hb d_BV_checkCall_9 ?_
  refine lv_if_lt (tgt := 19) hx hb d_BV_checkCall_10 (by decide) (fun c_1 => ?_) (fun c_1 => ?_)
  · have c_1 := (lc_lt).mp c_1
    replace hf := ifp c_1 hf
    refine lv_lload_n hx hb d_BV_checkCall_19 rfl (lv_at hl 1 rfl) ?_
    refine lv_l2i hx hb d_BV_checkCall_20 rfl ?_
    refine W.eq (g2 := F0 m 21 ls [.int (iI v_callee.toInt32.toInt)]) (by rw [← iI_of v_callee.toInt32] <;> rfl) ?_
    refine lv_istore_n (lv' := [(3, .int (iI v_callee.toInt32.toInt)), (0, .ref aBV), (1, .long v_callee)]) hx hb d_BV_checkCall_21 rfl hl (by decide) rfl (fun ls hl => ?_)
    refine lv_aload_n hx hb d_BV_checkCall_22 rfl (lv_at hl 1 rfl) ?_
    refine va_get (D := G) (ci := 5) (v := .ref aWa) (C := R_BV) (T := F_BV) (N := 12) hx hb hts i_BV hown hK hP 5 rfl rfl 0 (by decide) (hts _ m_108) (fun _ h9 => h9) rfl d_BV_checkCall_23 ?_
    refine lv_iload_n hx hb d_BV_checkCall_26 rfl (lv_at hl 0 rfl) ?_
    replace hf := obE hnb hf
    obtain ⟨x_2, e_3, hf⟩ := hf
    refine xx_callV (wc := [(aWa, .inr (7, [.int (iI zW1.typeCount), .ref aWa_parameterCounts, .ref aWa_parameters, .ref aWa_results, .int (iI zW3.functionCount), .ref aWa_functionTypes, .ref aWa_starts, .ref aWa_localCounts, .ref aWa_locals, .int (bI zW5.hasMemory), .long zW5.pagesAtFirst, .long zW5.pagesMost, .int (iI zW6.globalCount), .ref aWa_globalTypes, .ref aWa_globalsChange, .ref aWa_initialTypes, .ref aWa_initialValues, .ref aEx, .ref aCo])), (aWa_parameterCounts, .inl (cI, 20, .inl (fun k9 => iI (zW1.parameterCounts k9)))), (aWa_functionTypes, .inl (cI, 30, .inl (fun k9 => iI (zW3.functionTypes k9))))]) (wr := [(aWa_parameters, .inl (cI, 160, .inl (fun k9 => iI (zW1.parameters k9)))), (aWa_results, .inl (cI, 20, .inl (fun k9 => iI (zW1.results k9)))), (aBV, .inr (5, [.ref aWa, .ref aCo, .int (iI zBV.function), .ref aBV_types, .int (iI zBt.height), .ref aBV_openers, .ref aBV_bases, .ref aBV_blockTypes, .ref aBV_labelTypes, .ref aBV_unreachable, .int (iI zBo.openCount), .int (bI zBV.failed)])), (aBV_types, .inl (cI, 2000, .inl (fun k9 => iI (zBt.types k9)))), (aBV_bases, .inl (cI, 101, .inl (fun k9 => iI (zBo.bases k9)))), (aBV_unreachable, .inl (cZ, 101, .inl (fun k9 => bI (zBo.unreachable k9))))]) (As := [.int (iI v_callee.toInt32.toInt)]) (rest := []) ⟨hx, hb, hml, hown, hts⟩ xE_st hK hE hA (k_Wa_parameterCountOf l htr G cB cI cJ cZ cG aWa aWa_parameterCounts aWa_parameters aWa_results aWa_functionTypes aWa_starts aWa_localCounts aWa_locals aWa_globalTypes aWa_globalsChange aWa_initialTypes aWa_initialValues aEx aCo zW1 zW3 zW5 zW6 hzW1 hzW3 hzW5 hzW6 v_callee.toInt32.toInt (R32_of _) (.ret x_2) e_3 ret_nb _) (xw_V 1 hts m_832 m_833 m_834 m_8 m_835 (by decide +kernel) ⟨(Nat.le_of_ble_eq_true rfl), (Nat.le_of_ble_eq_true rfl)⟩) hP hD hS [0, 1, 4] [2, 3, 5, 6, 7, 8] rfl rfl (by decide +kernel) (by decide +kernel) (by decide +kernel) 0 7 rfl rfl rfl rfl hl.1 rfl (Nat.le_of_ble_eq_true rfl) d_BV_checkCall_27 ⟨(Nat.le_of_ble_eq_true rfl), (Nat.le_of_ble_eq_true rfl)⟩ (fun v9 w9 H_1 locs_1 hp hP_1 hD_1 hS_1 => ?_) (fun x9 w9 H9 l9 hp _ _ _ => absurd hp (fun q9 => by obtain ⟨-, ho, -⟩ := q9; cases ho))
    clear hS hD hP
    obtain ⟨hx_2, ho, rfl⟩ := hp
    cases ho
    have hQ9 : (fun w9 => va_P G classes w9 H_1 ∧ va_D A w9) [(aWa_parameters, .inl (cI, 160, .inl (fun k9 => iI (zW1.parameters k9)))), (aWa_results, .inl (cI, 20, .inl (fun k9 => iI (zW1.results k9)))), (aBV, .inr (5, [.ref aWa, .ref aCo, .int (iI zBV.function), .ref aBV_types, .int (iI zBt.height), .ref aBV_openers, .ref aBV_bases, .ref aBV_blockTypes, .ref aBV_labelTypes, .ref aBV_unreachable, .int (iI zBo.openCount), .int (bI zBV.failed)])), (aBV_types, .inl (cI, 2000, .inl (fun k9 => iI (zBt.types k9)))), (aBV_bases, .inl (cI, 101, .inl (fun k9 => iI (zBo.bases k9)))), (aBV_unreachable, .inl (cZ, 101, .inl (fun k9 => bI (zBo.unreachable k9)))), (aWa, .inr (7, [.int (iI zW1.typeCount), .ref aWa_parameterCounts, .ref aWa_parameters, .ref aWa_results, .int (iI zW3.functionCount), .ref aWa_functionTypes, .ref aWa_starts, .ref aWa_localCounts, .ref aWa_locals, .int (bI zW5.hasMemory), .long zW5.pagesAtFirst, .long zW5.pagesMost, .int (iI zW6.globalCount), .ref aWa_globalTypes, .ref aWa_globalsChange, .ref aWa_initialTypes, .ref aWa_initialValues, .ref aEx, .ref aCo])), (aWa_parameterCounts, .inl (cI, 20, .inl (fun k9 => iI (zW1.parameterCounts k9)))), (aWa_functionTypes, .inl (cI, 30, .inl (fun k9 => iI (zW3.functionTypes k9))))] := ⟨hP_1, hD_1⟩
    clear hP_1 hD_1
    obtain ⟨hP_1, hD_1⟩ := hQ9
    refine lv_iconst (v := iI 1) hx hb d_BV_checkCall_30 (by decide) ?_
    refine lv_isub hx hb d_BV_checkCall_31 ?_
    refine lv_topi (fun x9 e9 => ?_)
    obtain rfl : x9 = iI (x_2 - 1) := e9.trans (iI_sub _ _)
    replace hf := grd hnb hf
    obtain ⟨g_4, hf⟩ := hf
    refine lv_istore (lv' := [(4, .int (iI (x_2 - 1))), (3, .int (iI v_callee.toInt32.toInt)), (0, .ref aBV), (1, .long v_callee)]) hx hb d_BV_checkCall_32 hl (by decide) rfl (fun ls hl => ?_)
    refine obG hf (fun K_7 hK_7 hf => ?_)
    have hJK_7 : ∀ (y_9 : KBV × KBt × Int), KBV.Ok y_9.1 ∧ KBt.Ok y_9.2.1 ∧ R32 y_9.2.2 → K_7 y_9 = R9 → ∀ (H_1 : Heap) (locs_1 : List Loc), (fun w9 => va_P G classes w9 H_1 → va_D A w9 → va_S A s.heap H_1 locs_1 → ∀ (ls : Array Slot), lv_has ls 5 [(0, .ref aBV), (1, .long v_callee), (3, .int (iI v_callee.toInt32.toInt)), (4, .int (iI y_9.2.2))] → W p l e (headSpec (wx y_BV_checkCall b_BV_checkCall 5 none) { frames := 1, cells := 0, slots := 0, locals := 22 }).room s m ([.ref aBV, .long v_callee] : List Value).toArray below meth c H_1 locs_1 0 0 (MX below (XQ G classes A (fun o w1 => ozp R9 (fun x9 => (KBV.Ok x9.1 ∧ KBt.Ok x9.2) ∧ o = .returned none ∧ w1 = [(aWa, .inr (7, [.int (iI zW1.typeCount), .ref aWa_parameterCounts, .ref aWa_parameters, .ref aWa_results, .int (iI zW3.functionCount), .ref aWa_functionTypes, .ref aWa_starts, .ref aWa_localCounts, .ref aWa_locals, .int (bI zW5.hasMemory), .long zW5.pagesAtFirst, .long zW5.pagesMost, .int (iI zW6.globalCount), .ref aWa_globalTypes, .ref aWa_globalsChange, .ref aWa_initialTypes, .ref aWa_initialValues, .ref aEx, .ref aCo])), (aWa_parameterCounts, .inl (cI, 20, .inl (fun k9 => iI (zW1.parameterCounts k9)))), (aWa_parameters, .inl (cI, 160, .inl (fun k9 => iI (zW1.parameters k9)))), (aWa_results, .inl (cI, 20, .inl (fun k9 => iI (zW1.results k9)))), (aWa_functionTypes, .inl (cI, 30, .inl (fun k9 => iI (zW3.functionTypes k9)))), (aBV, .inr (5, [.ref aWa, .ref aCo, .int (iI x9.1.function), .ref aBV_types, .int (iI x9.2.height), .ref aBV_openers, .ref aBV_bases, .ref aBV_blockTypes, .ref aBV_labelTypes, .ref aBV_unreachable, .int (iI zBo.openCount), .int (bI x9.1.failed)])), (aBV_types, .inl (cI, 2000, .inl (fun k9 => iI (x9.2.types k9)))), (aBV_bases, .inl (cI, 101, .inl (fun k9 => iI (zBo.bases k9)))), (aBV_unreachable, .inl (cZ, 101, .inl (fun k9 => bI (zBo.unreachable k9))))]) (fun _ => False))) ([.ref aBV, .long v_callee] : List Value).toArray s 0 0 A) (F0 m 60 ls [])) [(aWa_parameters, .inl (cI, 160, .inl (fun k9 => iI (zW1.parameters k9)))), (aWa_results, .inl (cI, 20, .inl (fun k9 => iI (zW1.results k9)))), (aBV, .inr (5, [.ref aWa, .ref aCo, .int (iI y_9.1.function), .ref aBV_types, .int (iI y_9.2.1.height), .ref aBV_openers, .ref aBV_bases, .ref aBV_blockTypes, .ref aBV_labelTypes, .ref aBV_unreachable, .int (iI zBo.openCount), .int (bI y_9.1.failed)])), (aBV_types, .inl (cI, 2000, .inl (fun k9 => iI (y_9.2.1.types k9)))), (aBV_bases, .inl (cI, 101, .inl (fun k9 => iI (zBo.bases k9)))), (aBV_unreachable, .inl (cZ, 101, .inl (fun k9 => bI (zBo.unreachable k9)))), (aWa, .inr (7, [.int (iI zW1.typeCount), .ref aWa_parameterCounts, .ref aWa_parameters, .ref aWa_results, .int (iI zW3.functionCount), .ref aWa_functionTypes, .ref aWa_starts, .ref aWa_localCounts, .ref aWa_locals, .int (bI zW5.hasMemory), .long zW5.pagesAtFirst, .long zW5.pagesMost, .int (iI zW6.globalCount), .ref aWa_globalTypes, .ref aWa_globalsChange, .ref aWa_initialTypes, .ref aWa_initialValues, .ref aEx, .ref aCo])), (aWa_parameterCounts, .inl (cI, 20, .inl (fun k9 => iI (zW1.parameterCounts k9)))), (aWa_functionTypes, .inl (cI, 30, .inl (fun k9 => iI (zW3.functionTypes k9))))] := by
      intro y_9 hy_9 hf H_6 locs_6 hP_6 hD_6 hS_6 ls hl
      clear hS_1 hD_1 hP_1
      replace hf := (congrFun hK_7 y_9).symm.trans hf
      clear hK_7
      refine lv_aload_n hx hb d_BV_checkCall_60 rfl (lv_at hl 0 rfl) ?_
      refine lv_aload_n hx hb d_BV_checkCall_61 rfl (lv_at hl 0 rfl) ?_
      refine va_get (D := G) (ci := 5) (v := .ref aWa) (C := R_BV) (T := F_BV) (N := 12) hx hb hts i_BV hown hK hP_6 2 rfl rfl 0 (by decide) (hts _ m_108) (fun _ h9 => h9) rfl d_BV_checkCall_62 ?_
      refine lv_iload_n hx hb d_BV_checkCall_65 rfl (lv_at hl 2 rfl) ?_
      replace hf := obE hnb hf
      obtain ⟨x_10, e_11, hf⟩ := hf
      refine xx_callV (wc := [(aWa, .inr (7, [.int (iI zW1.typeCount), .ref aWa_parameterCounts, .ref aWa_parameters, .ref aWa_results, .int (iI zW3.functionCount), .ref aWa_functionTypes, .ref aWa_starts, .ref aWa_localCounts, .ref aWa_locals, .int (bI zW5.hasMemory), .long zW5.pagesAtFirst, .long zW5.pagesMost, .int (iI zW6.globalCount), .ref aWa_globalTypes, .ref aWa_globalsChange, .ref aWa_initialTypes, .ref aWa_initialValues, .ref aEx, .ref aCo])), (aWa_results, .inl (cI, 20, .inl (fun k9 => iI (zW1.results k9)))), (aWa_functionTypes, .inl (cI, 30, .inl (fun k9 => iI (zW3.functionTypes k9))))]) (wr := [(aWa_parameters, .inl (cI, 160, .inl (fun k9 => iI (zW1.parameters k9)))), (aBV, .inr (5, [.ref aWa, .ref aCo, .int (iI y_9.1.function), .ref aBV_types, .int (iI y_9.2.1.height), .ref aBV_openers, .ref aBV_bases, .ref aBV_blockTypes, .ref aBV_labelTypes, .ref aBV_unreachable, .int (iI zBo.openCount), .int (bI y_9.1.failed)])), (aBV_types, .inl (cI, 2000, .inl (fun k9 => iI (y_9.2.1.types k9)))), (aBV_bases, .inl (cI, 101, .inl (fun k9 => iI (zBo.bases k9)))), (aBV_unreachable, .inl (cZ, 101, .inl (fun k9 => bI (zBo.unreachable k9)))), (aWa_parameterCounts, .inl (cI, 20, .inl (fun k9 => iI (zW1.parameterCounts k9))))]) (As := [.int (iI v_callee.toInt32.toInt)]) (rest := [.ref aBV]) ⟨hx, hb, hml, hown, hts⟩ xE_st hK hE hA (k_Wa_resultOf l htr G cB cI cJ cZ cG aWa aWa_parameterCounts aWa_parameters aWa_results aWa_functionTypes aWa_starts aWa_localCounts aWa_locals aWa_globalTypes aWa_globalsChange aWa_initialTypes aWa_initialValues aEx aCo zW1 zW3 zW5 zW6 hzW1 hzW3 hzW5 hzW6 v_callee.toInt32.toInt (R32_of _) (.ret x_10) e_11 ret_nb _) (xw_V 1 hts m_784 m_785 m_786 m_8 m_787 (by decide +kernel) ⟨(Nat.le_of_ble_eq_true rfl), (Nat.le_of_ble_eq_true rfl)⟩) hP_6 hD_6 hS_6 [6, 1, 8] [0, 2, 3, 4, 5, 7] rfl rfl (by decide +kernel) (by decide +kernel) (by decide +kernel) 0 7 rfl rfl rfl rfl hl.1 rfl (Nat.le_of_ble_eq_true rfl) d_BV_checkCall_66 ⟨(Nat.le_of_ble_eq_true rfl), (Nat.le_of_ble_eq_true rfl)⟩ (fun v9 w9 H_7 locs_7 hp hP_7 hD_7 hS_7 => ?_) (fun x9 w9 H9 l9 hp _ _ _ => absurd hp (fun q9 => by obtain ⟨-, ho, -⟩ := q9; cases ho))
      clear hS_6 hD_6 hP_6
      obtain ⟨hx_10, ho, rfl⟩ := hp
      cases ho
      have hQ9 : (fun w9 => va_P G classes w9 H_7 ∧ va_D A w9) [(aWa_parameters, .inl (cI, 160, .inl (fun k9 => iI (zW1.parameters k9)))), (aBV, .inr (5, [.ref aWa, .ref aCo, .int (iI y_9.1.function), .ref aBV_types, .int (iI y_9.2.1.height), .ref aBV_openers, .ref aBV_bases, .ref aBV_blockTypes, .ref aBV_labelTypes, .ref aBV_unreachable, .int (iI zBo.openCount), .int (bI y_9.1.failed)])), (aBV_types, .inl (cI, 2000, .inl (fun k9 => iI (y_9.2.1.types k9)))), (aBV_bases, .inl (cI, 101, .inl (fun k9 => iI (zBo.bases k9)))), (aBV_unreachable, .inl (cZ, 101, .inl (fun k9 => bI (zBo.unreachable k9)))), (aWa_parameterCounts, .inl (cI, 20, .inl (fun k9 => iI (zW1.parameterCounts k9)))), (aWa, .inr (7, [.int (iI zW1.typeCount), .ref aWa_parameterCounts, .ref aWa_parameters, .ref aWa_results, .int (iI zW3.functionCount), .ref aWa_functionTypes, .ref aWa_starts, .ref aWa_localCounts, .ref aWa_locals, .int (bI zW5.hasMemory), .long zW5.pagesAtFirst, .long zW5.pagesMost, .int (iI zW6.globalCount), .ref aWa_globalTypes, .ref aWa_globalsChange, .ref aWa_initialTypes, .ref aWa_initialValues, .ref aEx, .ref aCo])), (aWa_results, .inl (cI, 20, .inl (fun k9 => iI (zW1.results k9)))), (aWa_functionTypes, .inl (cI, 30, .inl (fun k9 => iI (zW3.functionTypes k9))))] := ⟨hP_7, hD_7⟩
      clear hP_7 hD_7
      obtain ⟨hP_7, hD_7⟩ := hQ9
      replace hf := obE hnb hf
      obtain ⟨x_12, e_13, hf⟩ := hf
      refine xx_callV (wc := [(aBV, .inr (5, [.ref aWa, .ref aCo, .int (iI y_9.1.function), .ref aBV_types, .int (iI y_9.2.1.height), .ref aBV_openers, .ref aBV_bases, .ref aBV_blockTypes, .ref aBV_labelTypes, .ref aBV_unreachable, .int (iI zBo.openCount), .int (bI y_9.1.failed)])), (aBV_types, .inl (cI, 2000, .inl (fun k9 => iI (y_9.2.1.types k9))))]) (wr := [(aWa_parameters, .inl (cI, 160, .inl (fun k9 => iI (zW1.parameters k9)))), (aBV_bases, .inl (cI, 101, .inl (fun k9 => iI (zBo.bases k9)))), (aBV_unreachable, .inl (cZ, 101, .inl (fun k9 => bI (zBo.unreachable k9)))), (aWa_parameterCounts, .inl (cI, 20, .inl (fun k9 => iI (zW1.parameterCounts k9)))), (aWa, .inr (7, [.int (iI zW1.typeCount), .ref aWa_parameterCounts, .ref aWa_parameters, .ref aWa_results, .int (iI zW3.functionCount), .ref aWa_functionTypes, .ref aWa_starts, .ref aWa_localCounts, .ref aWa_locals, .int (bI zW5.hasMemory), .long zW5.pagesAtFirst, .long zW5.pagesMost, .int (iI zW6.globalCount), .ref aWa_globalTypes, .ref aWa_globalsChange, .ref aWa_initialTypes, .ref aWa_initialValues, .ref aEx, .ref aCo])), (aWa_results, .inl (cI, 20, .inl (fun k9 => iI (zW1.results k9)))), (aWa_functionTypes, .inl (cI, 30, .inl (fun k9 => iI (zW3.functionTypes k9))))]) (As := [.int (iI x_10)]) (rest := []) ⟨hx, hb, hml, hown, hts⟩ xE_st hK hE hA (k_BV_push l htr G cB cI cJ cZ cG aBV aWa aCo aBV_types aBV_openers aBV_bases aBV_blockTypes aBV_labelTypes aBV_unreachable y_9.1 y_9.2.1 zBo hy_9.1 hy_9.2.1 hzBo x_10 hx_10 (.ret x_12) e_13 ret_nb _) (xw_V 1 hts m_820 m_822 ms_BV_push m_6 m_823 (by decide +kernel) ⟨(Nat.le_of_ble_eq_true rfl), (Nat.le_of_ble_eq_true rfl)⟩) hP_7 hD_7 hS_7 [1, 2] [0, 3, 4, 5, 6, 7, 8] rfl rfl (by decide +kernel) (by decide +kernel) (by decide +kernel) 0 5 rfl rfl rfl rfl hl.1 rfl (Nat.le_of_ble_eq_true rfl) d_BV_checkCall_69 ⟨(Nat.le_of_ble_eq_true rfl), (Nat.le_of_ble_eq_true rfl)⟩ (fun v9 w9 H_8 locs_8 hp hP_8 hD_8 hS_8 => ?_) (fun x9 w9 H9 l9 hp _ _ _ => absurd hp (fun q9 => by obtain ⟨-, ho, -⟩ := q9; cases ho))
      clear hS_7 hD_7 hP_7
      obtain ⟨hx_12, ho, rfl⟩ := hp
      cases ho
      have hQ9 : (fun w9 => va_P G classes w9 H_8 ∧ va_D A w9) [(aWa_parameters, .inl (cI, 160, .inl (fun k9 => iI (zW1.parameters k9)))), (aBV_bases, .inl (cI, 101, .inl (fun k9 => iI (zBo.bases k9)))), (aBV_unreachable, .inl (cZ, 101, .inl (fun k9 => bI (zBo.unreachable k9)))), (aWa_parameterCounts, .inl (cI, 20, .inl (fun k9 => iI (zW1.parameterCounts k9)))), (aWa, .inr (7, [.int (iI zW1.typeCount), .ref aWa_parameterCounts, .ref aWa_parameters, .ref aWa_results, .int (iI zW3.functionCount), .ref aWa_functionTypes, .ref aWa_starts, .ref aWa_localCounts, .ref aWa_locals, .int (bI zW5.hasMemory), .long zW5.pagesAtFirst, .long zW5.pagesMost, .int (iI zW6.globalCount), .ref aWa_globalTypes, .ref aWa_globalsChange, .ref aWa_initialTypes, .ref aWa_initialValues, .ref aEx, .ref aCo])), (aWa_results, .inl (cI, 20, .inl (fun k9 => iI (zW1.results k9)))), (aWa_functionTypes, .inl (cI, 30, .inl (fun k9 => iI (zW3.functionTypes k9)))), (aBV, .inr (5, [.ref aWa, .ref aCo, .int (iI x_12.1.function), .ref aBV_types, .int (iI x_12.2.height), .ref aBV_openers, .ref aBV_bases, .ref aBV_blockTypes, .ref aBV_labelTypes, .ref aBV_unreachable, .int (iI zBo.openCount), .int (bI x_12.1.failed)])), (aBV_types, .inl (cI, 2000, .inl (fun k9 => iI (x_12.2.types k9))))] := ⟨hP_8, hD_8⟩
      clear hP_8 hD_8
      obtain ⟨hP_8, hD_8⟩ := hQ9
      have hP_8 := hP_8.sub (ws' := [(aWa, .inr (7, [.int (iI zW1.typeCount), .ref aWa_parameterCounts, .ref aWa_parameters, .ref aWa_results, .int (iI zW3.functionCount), .ref aWa_functionTypes, .ref aWa_starts, .ref aWa_localCounts, .ref aWa_locals, .int (bI zW5.hasMemory), .long zW5.pagesAtFirst, .long zW5.pagesMost, .int (iI zW6.globalCount), .ref aWa_globalTypes, .ref aWa_globalsChange, .ref aWa_initialTypes, .ref aWa_initialValues, .ref aEx, .ref aCo])), (aWa_parameterCounts, .inl (cI, 20, .inl (fun k9 => iI (zW1.parameterCounts k9)))), (aWa_parameters, .inl (cI, 160, .inl (fun k9 => iI (zW1.parameters k9)))), (aWa_results, .inl (cI, 20, .inl (fun k9 => iI (zW1.results k9)))), (aWa_functionTypes, .inl (cI, 30, .inl (fun k9 => iI (zW3.functionTypes k9)))), (aBV, .inr (5, [.ref aWa, .ref aCo, .int (iI x_12.1.function), .ref aBV_types, .int (iI x_12.2.height), .ref aBV_openers, .ref aBV_bases, .ref aBV_blockTypes, .ref aBV_labelTypes, .ref aBV_unreachable, .int (iI zBo.openCount), .int (bI x_12.1.failed)])), (aBV_types, .inl (cI, 2000, .inl (fun k9 => iI (x_12.2.types k9)))), (aBV_bases, .inl (cI, 101, .inl (fun k9 => iI (zBo.bases k9)))), (aBV_unreachable, .inl (cZ, 101, .inl (fun k9 => bI (zBo.unreachable k9))))]) [4, 3, 0, 5, 6, 7, 8, 1, 2] rfl
      have hD_8 := hD_8.sub (ws' := [(aWa, .inr (7, [.int (iI zW1.typeCount), .ref aWa_parameterCounts, .ref aWa_parameters, .ref aWa_results, .int (iI zW3.functionCount), .ref aWa_functionTypes, .ref aWa_starts, .ref aWa_localCounts, .ref aWa_locals, .int (bI zW5.hasMemory), .long zW5.pagesAtFirst, .long zW5.pagesMost, .int (iI zW6.globalCount), .ref aWa_globalTypes, .ref aWa_globalsChange, .ref aWa_initialTypes, .ref aWa_initialValues, .ref aEx, .ref aCo])), (aWa_parameterCounts, .inl (cI, 20, .inl (fun k9 => iI (zW1.parameterCounts k9)))), (aWa_parameters, .inl (cI, 160, .inl (fun k9 => iI (zW1.parameters k9)))), (aWa_results, .inl (cI, 20, .inl (fun k9 => iI (zW1.results k9)))), (aWa_functionTypes, .inl (cI, 30, .inl (fun k9 => iI (zW3.functionTypes k9)))), (aBV, .inr (5, [.ref aWa, .ref aCo, .int (iI x_12.1.function), .ref aBV_types, .int (iI x_12.2.height), .ref aBV_openers, .ref aBV_bases, .ref aBV_blockTypes, .ref aBV_labelTypes, .ref aBV_unreachable, .int (iI zBo.openCount), .int (bI x_12.1.failed)])), (aBV_types, .inl (cI, 2000, .inl (fun k9 => iI (x_12.2.types k9)))), (aBV_bases, .inl (cI, 101, .inl (fun k9 => iI (zBo.bases k9)))), (aBV_unreachable, .inl (cZ, 101, .inl (fun k9 => bI (zBo.unreachable k9))))]) [4, 3, 0, 5, 6, 7, 8, 1, 2] (by decide +kernel) rfl
      exact ex_W (fun _ h => ex_mq h) (W.vret hx hb hr (fun t ht hW => ⟨⟨_, ozr hf ⟨⟨hx_12.1, hx_12.2⟩, rfl, rfl⟩, by rw [ht]; exact hP_8, hD_8⟩, hS_8.F ht⟩) hS_8.2.2 d_BV_checkCall_72)
    clear hK_7
    have loop_34 : ∀ (n_5 : Nat) (zBV_14 : KBV) (zBt_15 : KBt) (w_p_16 : Int), KBV.Ok zBV_14 → KBt.Ok zBt_15 → R32 w_p_16 → ∀ (R_17 : Out Empty (KBV × KBt × Int)), L34_BV_checkCall fu zW1 zW3 zBo v_callee n_5 zBV_14 zBt_15 w_p_16 = R_17 → obind R_17 K_7 = R9 → ∀ (H_1 : Heap) (locs_1 : List Loc), (fun w9 => va_P G classes w9 H_1 → va_D A w9 → va_S A s.heap H_1 locs_1 → ∀ (ls : Array Slot), lv_has ls 5 [(0, .ref aBV), (1, .long v_callee), (3, .int (iI v_callee.toInt32.toInt)), (4, .int (iI w_p_16))] → W p l e (headSpec (wx y_BV_checkCall b_BV_checkCall 5 none) { frames := 1, cells := 0, slots := 0, locals := 22 }).room s m ([.ref aBV, .long v_callee] : List Value).toArray below meth c H_1 locs_1 0 0 (MX below (XQ G classes A (fun o w1 => ozp R9 (fun x9 => (KBV.Ok x9.1 ∧ KBt.Ok x9.2) ∧ o = .returned none ∧ w1 = [(aWa, .inr (7, [.int (iI zW1.typeCount), .ref aWa_parameterCounts, .ref aWa_parameters, .ref aWa_results, .int (iI zW3.functionCount), .ref aWa_functionTypes, .ref aWa_starts, .ref aWa_localCounts, .ref aWa_locals, .int (bI zW5.hasMemory), .long zW5.pagesAtFirst, .long zW5.pagesMost, .int (iI zW6.globalCount), .ref aWa_globalTypes, .ref aWa_globalsChange, .ref aWa_initialTypes, .ref aWa_initialValues, .ref aEx, .ref aCo])), (aWa_parameterCounts, .inl (cI, 20, .inl (fun k9 => iI (zW1.parameterCounts k9)))), (aWa_parameters, .inl (cI, 160, .inl (fun k9 => iI (zW1.parameters k9)))), (aWa_results, .inl (cI, 20, .inl (fun k9 => iI (zW1.results k9)))), (aWa_functionTypes, .inl (cI, 30, .inl (fun k9 => iI (zW3.functionTypes k9)))), (aBV, .inr (5, [.ref aWa, .ref aCo, .int (iI x9.1.function), .ref aBV_types, .int (iI x9.2.height), .ref aBV_openers, .ref aBV_bases, .ref aBV_blockTypes, .ref aBV_labelTypes, .ref aBV_unreachable, .int (iI zBo.openCount), .int (bI x9.1.failed)])), (aBV_types, .inl (cI, 2000, .inl (fun k9 => iI (x9.2.types k9)))), (aBV_bases, .inl (cI, 101, .inl (fun k9 => iI (zBo.bases k9)))), (aBV_unreachable, .inl (cZ, 101, .inl (fun k9 => bI (zBo.unreachable k9))))]) (fun _ => False))) ([.ref aBV, .long v_callee] : List Value).toArray s 0 0 A) (F0 m 34 ls [])) [(aWa_parameters, .inl (cI, 160, .inl (fun k9 => iI (zW1.parameters k9)))), (aWa_results, .inl (cI, 20, .inl (fun k9 => iI (zW1.results k9)))), (aBV, .inr (5, [.ref aWa, .ref aCo, .int (iI zBV_14.function), .ref aBV_types, .int (iI zBt_15.height), .ref aBV_openers, .ref aBV_bases, .ref aBV_blockTypes, .ref aBV_labelTypes, .ref aBV_unreachable, .int (iI zBo.openCount), .int (bI zBV_14.failed)])), (aBV_types, .inl (cI, 2000, .inl (fun k9 => iI (zBt_15.types k9)))), (aBV_bases, .inl (cI, 101, .inl (fun k9 => iI (zBo.bases k9)))), (aBV_unreachable, .inl (cZ, 101, .inl (fun k9 => bI (zBo.unreachable k9)))), (aWa, .inr (7, [.int (iI zW1.typeCount), .ref aWa_parameterCounts, .ref aWa_parameters, .ref aWa_results, .int (iI zW3.functionCount), .ref aWa_functionTypes, .ref aWa_starts, .ref aWa_localCounts, .ref aWa_locals, .int (bI zW5.hasMemory), .long zW5.pagesAtFirst, .long zW5.pagesMost, .int (iI zW6.globalCount), .ref aWa_globalTypes, .ref aWa_globalsChange, .ref aWa_initialTypes, .ref aWa_initialValues, .ref aEx, .ref aCo])), (aWa_parameterCounts, .inl (cI, 20, .inl (fun k9 => iI (zW1.parameterCounts k9)))), (aWa_functionTypes, .inl (cI, 30, .inl (fun k9 => iI (zW3.functionTypes k9))))] := by
      intro n_5
      induction n_5 with
      | zero => intro zBV_14 zBt_15 w_p_16  hzBV_14 hzBt_15 hw_p_16 R_17 hf hk34; subst hf; exact absurd hk34.symm hnb
      | succ n_5 ih_34 =>
        intro zBV_14 zBt_15 w_p_16  hzBV_14 hzBt_15 hw_p_16 R_17 hf hk34 H_9 locs_9 hP_9 hD_9 hS_9 ls hl
        clear hS_1 hD_1 hP_1
        have hnb : R_17 ≠ .bad := ob_nb hnb hk34
        rw [L34_BV_checkCall.eq_2] at hf
        refine lv_iload hx hb d_BV_checkCall_34 (lv_at hl 3 rfl) ?_
        refine lv_if_lt (tgt := 60) hx hb d_BV_checkCall_36 (by decide) (fun c_18 => ?_) (fun c_18 => ?_)
        · have c_18 := ((zv_lt (iI_t hw_p_16) zero_v)).mp c_18
          replace hf := ifp c_18 hf
          exact hJK_7 (zBV_14, zBt_15, w_p_16) ⟨hzBV_14, hzBt_15, hw_p_16⟩ (ob_r hf hk34) _ _ hP_9 hD_9 hS_9 _ (lv_sub hl [0, 1, 2, 3] rfl)
        · have c_18 := (fun q9 => c_18 (((zv_lt (iI_t hw_p_16) zero_v)).mpr q9))
          replace hf := ifn c_18 hf
          refine lv_aload_n hx hb d_BV_checkCall_39 rfl (lv_at hl 0 rfl) ?_
          refine lv_aload_n hx hb d_BV_checkCall_40 rfl (lv_at hl 0 rfl) ?_
          refine va_get (D := G) (ci := 5) (v := .ref aWa) (C := R_BV) (T := F_BV) (N := 12) hx hb hts i_BV hown hK hP_9 2 rfl rfl 0 (by decide) (hts _ m_108) (fun _ h9 => h9) rfl d_BV_checkCall_41 ?_
          refine lv_iload_n hx hb d_BV_checkCall_44 rfl (lv_at hl 2 rfl) ?_
          refine lv_iload hx hb d_BV_checkCall_45 (lv_at hl 3 rfl) ?_
          replace hf := obE hnb hf
          obtain ⟨x_19, e_20, hf⟩ := hf
          refine xx_callV (wc := [(aWa, .inr (7, [.int (iI zW1.typeCount), .ref aWa_parameterCounts, .ref aWa_parameters, .ref aWa_results, .int (iI zW3.functionCount), .ref aWa_functionTypes, .ref aWa_starts, .ref aWa_localCounts, .ref aWa_locals, .int (bI zW5.hasMemory), .long zW5.pagesAtFirst, .long zW5.pagesMost, .int (iI zW6.globalCount), .ref aWa_globalTypes, .ref aWa_globalsChange, .ref aWa_initialTypes, .ref aWa_initialValues, .ref aEx, .ref aCo])), (aWa_parameters, .inl (cI, 160, .inl (fun k9 => iI (zW1.parameters k9)))), (aWa_functionTypes, .inl (cI, 30, .inl (fun k9 => iI (zW3.functionTypes k9))))]) (wr := [(aWa_results, .inl (cI, 20, .inl (fun k9 => iI (zW1.results k9)))), (aBV, .inr (5, [.ref aWa, .ref aCo, .int (iI zBV_14.function), .ref aBV_types, .int (iI zBt_15.height), .ref aBV_openers, .ref aBV_bases, .ref aBV_blockTypes, .ref aBV_labelTypes, .ref aBV_unreachable, .int (iI zBo.openCount), .int (bI zBV_14.failed)])), (aBV_types, .inl (cI, 2000, .inl (fun k9 => iI (zBt_15.types k9)))), (aBV_bases, .inl (cI, 101, .inl (fun k9 => iI (zBo.bases k9)))), (aBV_unreachable, .inl (cZ, 101, .inl (fun k9 => bI (zBo.unreachable k9)))), (aWa_parameterCounts, .inl (cI, 20, .inl (fun k9 => iI (zW1.parameterCounts k9))))]) (As := [.int (iI v_callee.toInt32.toInt), .int (iI w_p_16)]) (rest := [.ref aBV]) ⟨hx, hb, hml, hown, hts⟩ xE_st hK hE hA (k_Wa_parameterTypeOf l htr G cB cI cJ cZ cG aWa aWa_parameterCounts aWa_parameters aWa_results aWa_functionTypes aWa_starts aWa_localCounts aWa_locals aWa_globalTypes aWa_globalsChange aWa_initialTypes aWa_initialValues aEx aCo zW1 zW3 zW5 zW6 hzW1 hzW3 hzW5 hzW6 v_callee.toInt32.toInt w_p_16 (R32_of _) hw_p_16 (.ret x_19) e_20 ret_nb _) (xw_V 2 hts m_836 m_837 m_838 m_8 m_839 (by decide +kernel) ⟨(Nat.le_of_ble_eq_true rfl), (Nat.le_of_ble_eq_true rfl)⟩) hP_9 hD_9 hS_9 [6, 0, 8] [1, 2, 3, 4, 5, 7] rfl rfl (by decide +kernel) (by decide +kernel) (by decide +kernel) 0 7 rfl rfl rfl rfl hl.1 rfl (Nat.le_of_ble_eq_true rfl) d_BV_checkCall_47 ⟨(Nat.le_of_ble_eq_true rfl), (Nat.le_of_ble_eq_true rfl)⟩ (fun v9 w9 H_10 locs_10 hp hP_10 hD_10 hS_10 => ?_) (fun x9 w9 H9 l9 hp _ _ _ => absurd hp (fun q9 => by obtain ⟨-, ho, -⟩ := q9; cases ho))
          clear hS_9 hD_9 hP_9
          obtain ⟨hx_19, ho, rfl⟩ := hp
          cases ho
          have hQ9 : (fun w9 => va_P G classes w9 H_10 ∧ va_D A w9) [(aWa_results, .inl (cI, 20, .inl (fun k9 => iI (zW1.results k9)))), (aBV, .inr (5, [.ref aWa, .ref aCo, .int (iI zBV_14.function), .ref aBV_types, .int (iI zBt_15.height), .ref aBV_openers, .ref aBV_bases, .ref aBV_blockTypes, .ref aBV_labelTypes, .ref aBV_unreachable, .int (iI zBo.openCount), .int (bI zBV_14.failed)])), (aBV_types, .inl (cI, 2000, .inl (fun k9 => iI (zBt_15.types k9)))), (aBV_bases, .inl (cI, 101, .inl (fun k9 => iI (zBo.bases k9)))), (aBV_unreachable, .inl (cZ, 101, .inl (fun k9 => bI (zBo.unreachable k9)))), (aWa_parameterCounts, .inl (cI, 20, .inl (fun k9 => iI (zW1.parameterCounts k9)))), (aWa, .inr (7, [.int (iI zW1.typeCount), .ref aWa_parameterCounts, .ref aWa_parameters, .ref aWa_results, .int (iI zW3.functionCount), .ref aWa_functionTypes, .ref aWa_starts, .ref aWa_localCounts, .ref aWa_locals, .int (bI zW5.hasMemory), .long zW5.pagesAtFirst, .long zW5.pagesMost, .int (iI zW6.globalCount), .ref aWa_globalTypes, .ref aWa_globalsChange, .ref aWa_initialTypes, .ref aWa_initialValues, .ref aEx, .ref aCo])), (aWa_parameters, .inl (cI, 160, .inl (fun k9 => iI (zW1.parameters k9)))), (aWa_functionTypes, .inl (cI, 30, .inl (fun k9 => iI (zW3.functionTypes k9))))] := ⟨hP_10, hD_10⟩
          clear hP_10 hD_10
          obtain ⟨hP_10, hD_10⟩ := hQ9
          replace hf := obE hnb hf
          obtain ⟨x_21, e_22, hf⟩ := hf
          refine xx_callV (wc := [(aBV, .inr (5, [.ref aWa, .ref aCo, .int (iI zBV_14.function), .ref aBV_types, .int (iI zBt_15.height), .ref aBV_openers, .ref aBV_bases, .ref aBV_blockTypes, .ref aBV_labelTypes, .ref aBV_unreachable, .int (iI zBo.openCount), .int (bI zBV_14.failed)])), (aBV_types, .inl (cI, 2000, .inl (fun k9 => iI (zBt_15.types k9)))), (aBV_bases, .inl (cI, 101, .inl (fun k9 => iI (zBo.bases k9)))), (aBV_unreachable, .inl (cZ, 101, .inl (fun k9 => bI (zBo.unreachable k9))))]) (wr := [(aWa_results, .inl (cI, 20, .inl (fun k9 => iI (zW1.results k9)))), (aWa_parameterCounts, .inl (cI, 20, .inl (fun k9 => iI (zW1.parameterCounts k9)))), (aWa, .inr (7, [.int (iI zW1.typeCount), .ref aWa_parameterCounts, .ref aWa_parameters, .ref aWa_results, .int (iI zW3.functionCount), .ref aWa_functionTypes, .ref aWa_starts, .ref aWa_localCounts, .ref aWa_locals, .int (bI zW5.hasMemory), .long zW5.pagesAtFirst, .long zW5.pagesMost, .int (iI zW6.globalCount), .ref aWa_globalTypes, .ref aWa_globalsChange, .ref aWa_initialTypes, .ref aWa_initialValues, .ref aEx, .ref aCo])), (aWa_parameters, .inl (cI, 160, .inl (fun k9 => iI (zW1.parameters k9)))), (aWa_functionTypes, .inl (cI, 30, .inl (fun k9 => iI (zW3.functionTypes k9))))]) (As := [.int (iI x_19)]) (rest := []) ⟨hx, hb, hml, hown, hts⟩ xE_st hK hE hA (k_BV_pop l htr G cB cI cJ cZ cG aBV aWa aCo aBV_types aBV_openers aBV_bases aBV_blockTypes aBV_labelTypes aBV_unreachable zBV_14 zBt_15 zBo hzBV_14 hzBt_15 hzBo x_19 hx_19 (.ret x_21) e_22 ret_nb _) (xw_V 1 hts m_804 m_806 ms_BV_pop m_6 m_807 (by decide +kernel) ⟨(Nat.le_of_ble_eq_true rfl), (Nat.le_of_ble_eq_true rfl)⟩) hP_10 hD_10 hS_10 [1, 2, 3, 4] [0, 5, 6, 7, 8] rfl rfl (by decide +kernel) (by decide +kernel) (by decide +kernel) 0 5 rfl rfl rfl rfl hl.1 rfl (Nat.le_of_ble_eq_true rfl) d_BV_checkCall_50 ⟨(Nat.le_of_ble_eq_true rfl), (Nat.le_of_ble_eq_true rfl)⟩ (fun v9 w9 H_11 locs_11 hp hP_11 hD_11 hS_11 => ?_) (fun x9 w9 H9 l9 hp _ _ _ => absurd hp (fun q9 => by obtain ⟨-, ho, -⟩ := q9; cases ho))
          clear hS_10 hD_10 hP_10
          obtain ⟨hx_21, ho, rfl⟩ := hp
          cases ho
          have hQ9 : (fun w9 => va_P G classes w9 H_11 ∧ va_D A w9) [(aWa_results, .inl (cI, 20, .inl (fun k9 => iI (zW1.results k9)))), (aWa_parameterCounts, .inl (cI, 20, .inl (fun k9 => iI (zW1.parameterCounts k9)))), (aWa, .inr (7, [.int (iI zW1.typeCount), .ref aWa_parameterCounts, .ref aWa_parameters, .ref aWa_results, .int (iI zW3.functionCount), .ref aWa_functionTypes, .ref aWa_starts, .ref aWa_localCounts, .ref aWa_locals, .int (bI zW5.hasMemory), .long zW5.pagesAtFirst, .long zW5.pagesMost, .int (iI zW6.globalCount), .ref aWa_globalTypes, .ref aWa_globalsChange, .ref aWa_initialTypes, .ref aWa_initialValues, .ref aEx, .ref aCo])), (aWa_parameters, .inl (cI, 160, .inl (fun k9 => iI (zW1.parameters k9)))), (aWa_functionTypes, .inl (cI, 30, .inl (fun k9 => iI (zW3.functionTypes k9)))), (aBV, .inr (5, [.ref aWa, .ref aCo, .int (iI x_21.1.function), .ref aBV_types, .int (iI x_21.2.1.height), .ref aBV_openers, .ref aBV_bases, .ref aBV_blockTypes, .ref aBV_labelTypes, .ref aBV_unreachable, .int (iI zBo.openCount), .int (bI x_21.1.failed)])), (aBV_types, .inl (cI, 2000, .inl (fun k9 => iI (x_21.2.1.types k9)))), (aBV_bases, .inl (cI, 101, .inl (fun k9 => iI (zBo.bases k9)))), (aBV_unreachable, .inl (cZ, 101, .inl (fun k9 => bI (zBo.unreachable k9))))] := ⟨hP_11, hD_11⟩
          clear hP_11 hD_11
          obtain ⟨hP_11, hD_11⟩ := hQ9
          refine lv_pop hx hb d_BV_checkCall_53 rfl ?_
          replace hf := grd hnb hf
          obtain ⟨g_23, hf⟩ := hf
          refine lv_iinc (v := iI (w_p_16 + (-1))) (lv' := [(4, .int (iI (w_p_16 + (-1)))), (0, .ref aBV), (1, .long v_callee), (3, .int (iI v_callee.toInt32.toInt))]) hx hb d_BV_checkCall_54 hl (k := 3) rfl (iI_add _ (-1)) (by decide) rfl (fun ls hl => ?_)
          refine lv_goto (tgt := 34) hx hb d_BV_checkCall_57 (by decide) ?_
          exact ih_34 x_21.1 x_21.2.1 (w_p_16 + (-1)) hx_21.1 hx_21.2.1 g_23 _ hf hk34 _ _ (hP_11.sub [3, 0, 5, 6, 7, 8, 2, 1, 4] rfl) (hD_11.sub [3, 0, 5, 6, 7, 8, 2, 1, 4] (by decide +kernel) rfl) hS_11 _ (lv_sub hl [1, 2, 3, 0] rfl)
    exact loop_34 fu zBV zBt (x_2 - 1) hzBV hzBt g_4 _ rfl hf _ _ hP_1 hD_1 hS_1 _ (lv_sub hl [2, 3, 1, 0] rfl)
  · have c_1 := (fun q9 => c_1 ((lc_lt).mpr q9))
    replace hf := ifn c_1 hf
    refine lv_aload_n hx hb d_BV_checkCall_13 rfl (lv_at hl 0 rfl) ?_
    refine lv_iconst (v := iI 1) hx hb d_BV_checkCall_14 (by decide) ?_
    refine W.eq (g2 := F0 m 15 ls [.int (bI true), .ref aBV]) (by rfl) ?_
    refine va_put (D := G) (ci := 5) (v := .int (bI true)) (ty := .boolean) (C := R_BV) (T := F_BV) (N := 12) hx hb hts i_BV t_BV t_BV_ok n_BV hown hK hP hD hS 5 rfl rfl 11 (by decide) (hts _ m_119) (fun _ h9 => h9) rfl (by decide +kernel) (bI_nar _) (bI_fit _) (Nat.le_of_ble_eq_true rfl) d_BV_checkCall_15 (fun H_12 locs_12 hP_12 hD_12 hS_12 => ?_)
    clear hS hD hP
    have hQ9 : (fun w9 => va_P G classes w9 H_12 ∧ va_D A w9) [(aWa, .inr (7, [.int (iI zW1.typeCount), .ref aWa_parameterCounts, .ref aWa_parameters, .ref aWa_results, .int (iI zW3.functionCount), .ref aWa_functionTypes, .ref aWa_starts, .ref aWa_localCounts, .ref aWa_locals, .int (bI zW5.hasMemory), .long zW5.pagesAtFirst, .long zW5.pagesMost, .int (iI zW6.globalCount), .ref aWa_globalTypes, .ref aWa_globalsChange, .ref aWa_initialTypes, .ref aWa_initialValues, .ref aEx, .ref aCo])), (aWa_parameterCounts, .inl (cI, 20, .inl (fun k9 => iI (zW1.parameterCounts k9)))), (aWa_parameters, .inl (cI, 160, .inl (fun k9 => iI (zW1.parameters k9)))), (aWa_results, .inl (cI, 20, .inl (fun k9 => iI (zW1.results k9)))), (aWa_functionTypes, .inl (cI, 30, .inl (fun k9 => iI (zW3.functionTypes k9)))), (aBV, .inr (5, [.ref aWa, .ref aCo, .int (iI zBV.function), .ref aBV_types, .int (iI zBt.height), .ref aBV_openers, .ref aBV_bases, .ref aBV_blockTypes, .ref aBV_labelTypes, .ref aBV_unreachable, .int (iI zBo.openCount), .int (bI true)])), (aBV_types, .inl (cI, 2000, .inl (fun k9 => iI (zBt.types k9)))), (aBV_bases, .inl (cI, 101, .inl (fun k9 => iI (zBo.bases k9)))), (aBV_unreachable, .inl (cZ, 101, .inl (fun k9 => bI (zBo.unreachable k9))))] := ⟨hP_12, hD_12⟩
    clear hP_12 hD_12
    obtain ⟨hP_12, hD_12⟩ := hQ9
    exact ex_W (fun _ h => ex_mq h) (W.vret hx hb hr (fun t ht hW => ⟨⟨_, ozr hf ⟨⟨(KBV.Ok.mk hzBV.function : KBV.Ok (KBV.mk zBV.function true)), hzBt⟩, rfl, rfl⟩, by rw [ht]; exact hP_12, hD_12⟩, hS_12.F ht⟩) hS_12.2.2 d_BV_checkCall_18)
set_option maxHeartbeats 8000000 in
set_option maxRecDepth 100000 in
theorem k_BV_checkLocal (l : Launch) (htr : l.stackTraces = false) (G : va_G) (cB cI cJ cZ cG : ClassId) (aBV : Nat) (aWa : Nat) (aCo : Nat) (aBV_types : Nat) (aBV_openers : Nat) (aBV_bases : Nat) (aBV_blockTypes : Nat) (aBV_labelTypes : Nat) (aBV_unreachable : Nat) (zBV : KBV) (zBt : KBt) (zBo : KBo) (hzBV : KBV.Ok zBV) (hzBt : KBt.Ok zBt) (hzBo : KBo.Ok zBo) (v_op : Int) (v_type : Int) (hv_op : R32 v_op) (hv_type : R32 v_type) (R9 : Out Empty (KBV × KBt)) (hf : f_BV_checkLocal zBV zBt zBo v_op v_type = R9) (hnb : R9 ≠ .bad) (sz : Nat) : MetX l y_BV_checkLocal (wx y_BV_checkLocal b_BV_checkLocal 3 none) { frames := 1, cells := 0, slots := 0, locals := 22 } (XP G classes (xtys cB cI cJ cZ cG) xE [.ref aBV, .int (iI v_op), .int (iI v_type)] [(aBV, .inr (5, [.ref aWa, .ref aCo, .int (iI zBV.function), .ref aBV_types, .int (iI zBt.height), .ref aBV_openers, .ref aBV_bases, .ref aBV_blockTypes, .ref aBV_labelTypes, .ref aBV_unreachable, .int (iI zBo.openCount), .int (bI zBV.failed)])), (aBV_types, .inl (cI, 2000, .inl (fun k9 => iI (zBt.types k9)))), (aBV_bases, .inl (cI, 101, .inl (fun k9 => iI (zBo.bases k9)))), (aBV_unreachable, .inl (cZ, 101, .inl (fun k9 => bI (zBo.unreachable k9))))] sz) (XQ G classes (va_A [(aBV, .inr (5, [.ref aWa, .ref aCo, .int (iI zBV.function), .ref aBV_types, .int (iI zBt.height), .ref aBV_openers, .ref aBV_bases, .ref aBV_blockTypes, .ref aBV_labelTypes, .ref aBV_unreachable, .int (iI zBo.openCount), .int (bI zBV.failed)])), (aBV_types, .inl (cI, 2000, .inl (fun k9 => iI (zBt.types k9)))), (aBV_bases, .inl (cI, 101, .inl (fun k9 => iI (zBo.bases k9)))), (aBV_unreachable, .inl (cZ, 101, .inl (fun k9 => bI (zBo.unreachable k9))))] sz) (fun o w1 => ozp R9 (fun x9 => (KBV.Ok x9.1 ∧ KBt.Ok x9.2) ∧ o = .returned none ∧ w1 = [(aBV, .inr (5, [.ref aWa, .ref aCo, .int (iI x9.1.function), .ref aBV_types, .int (iI x9.2.height), .ref aBV_openers, .ref aBV_bases, .ref aBV_blockTypes, .ref aBV_labelTypes, .ref aBV_unreachable, .int (iI zBo.openCount), .int (bI x9.1.failed)])), (aBV_types, .inl (cI, 2000, .inl (fun k9 => iI (x9.2.types k9)))), (aBV_bases, .inl (cI, 101, .inl (fun k9 => iI (zBo.bases k9)))), (aBV_unreachable, .inl (cZ, 101, .inl (fun k9 => bI (zBo.unreachable k9))))]) (fun _ => False))) 0 0 (va_A [(aBV, .inr (5, [.ref aWa, .ref aCo, .int (iI zBV.function), .ref aBV_types, .int (iI zBt.height), .ref aBV_openers, .ref aBV_bases, .ref aBV_blockTypes, .ref aBV_labelTypes, .ref aBV_unreachable, .int (iI zBo.openCount), .int (bI zBV.failed)])), (aBV_types, .inl (cI, 2000, .inl (fun k9 => iI (zBt.types k9)))), (aBV_bases, .inl (cI, 101, .inl (fun k9 => iI (zBo.bases k9)))), (aBV_unreachable, .inl (cZ, 101, .inl (fun k9 => bI (zBo.unreachable k9))))] sz) := by
  refine ex_ofW (cc := b_BV_checkLocal) (maxL := 3) (ret := none) (by decide) rfl ?_
  intro p e s m args below meth c s₁ B hml hno hv
  obtain ⟨rfl, hsz, hP, hK, hD0, hE⟩ := hv
  have hx := B.exec
  have hb := B.bytes
  have hr := B.returns
  have hts : ∀ w ∈ lw_good, w.before _ s = true := fun w h => atoms_spec (ws := wx y_BV_checkLocal b_BV_checkLocal 3 none) B.pre w (List.mem_cons_of_mem _ h)
  have hown : s.vm.findClass R_BV = some m.cls := findClass_of_methodNamed B.named
  have hlocks := B.notSynchronized
  subst hsz
  have hNS := xx_nostat hP
  have hD := hD0.self (sz := s.heap.size)
  generalize hAe : va_A [(aBV, .inr (5, [.ref aWa, .ref aCo, .int (iI zBV.function), .ref aBV_types, .int (iI zBt.height), .ref aBV_openers, .ref aBV_bases, .ref aBV_blockTypes, .ref aBV_labelTypes, .ref aBV_unreachable, .int (iI zBo.openCount), .int (bI zBV.failed)])), (aBV_types, .inl (cI, 2000, .inl (fun k9 => iI (zBt.types k9)))), (aBV_bases, .inl (cI, 101, .inl (fun k9 => iI (zBo.bases k9)))), (aBV_unreachable, .inl (cZ, 101, .inl (fun k9 => bI (zBo.unreachable k9))))] s.heap.size = A at hD hE hNS ⊢
  have hA : ∀ q : Nat, s.heap.size ≤ q → A q := fun q h => by rw [← hAe]; exact Or.inr h
  have hS : va_S A s.heap s.heap [] := va_S.rf
  have hl := lv_entry ([.ref aBV, .int (iI v_op), .int (iI v_type)]) (n := 3) (Nat.le_of_ble_eq_true rfl)
  rw [lg_entry_eq]
  generalize (lg_sl ([.ref aBV, .int (iI v_op), .int (iI v_type)]) ++ List.replicate (3 - (lg_sl ([.ref aBV, .int (iI v_op), .int (iI v_type)])).length) Slot.unset).toArray = ls at hl ⊢
  have hl : lv_has ls 3 [(0, .ref aBV), (1, .int (iI v_op)), (2, .int (iI v_type))] := hl
  unfold f_BV_checkLocal at hf
  refine lv_iload_n hx hb d_BV_checkLocal_0 rfl (lv_at hl 2 rfl) ?_
  refine lv_bipush (v := iI 64) hx hb d_BV_checkLocal_1 (by decide) ?_
  refine lv_icmp_ne (tgt := 12) hx hb d_BV_checkLocal_3 (by decide) (fun c_1 => ?_) (fun c_1 => ?_)
  · have c_1 := (fun q9 => c_1 (((zv_eq (iI_t hv_type) (iI_t (show R32 (64) by decide)))).mpr q9))
    replace hf := ifn c_1 hf
    refine lv_iload_n hx hb d_BV_checkLocal_12 rfl (lv_at hl 1 rfl) ?_
    refine lv_bipush (v := iI 32) hx hb d_BV_checkLocal_13 (by decide) ?_
    refine jpE hf (fun K_3 hK_3 hf9 => ?_)
    replace hf := hf9
    clear hf9
    have hJK_3 : ∀ (y_2 : KBV × KBt), KBV.Ok y_2.1 ∧ KBt.Ok y_2.2 → K_3 y_2 = R9 → ∀ (H : Heap) (locs : List Loc), (fun w9 => va_P G classes w9 H → va_D A w9 → va_S A s.heap H locs → ∀ (ls : Array Slot), lv_has ls 3 [(0, .ref aBV), (1, .int (iI v_op)), (2, .int (iI v_type))] → W p l e (headSpec (wx y_BV_checkLocal b_BV_checkLocal 3 none) { frames := 1, cells := 0, slots := 0, locals := 22 }).room s m ([.ref aBV, .int (iI v_op), .int (iI v_type)] : List Value).toArray below meth c H locs 0 0 (MX below (XQ G classes A (fun o w1 => ozp R9 (fun x9 => (KBV.Ok x9.1 ∧ KBt.Ok x9.2) ∧ o = .returned none ∧ w1 = [(aBV, .inr (5, [.ref aWa, .ref aCo, .int (iI x9.1.function), .ref aBV_types, .int (iI x9.2.height), .ref aBV_openers, .ref aBV_bases, .ref aBV_blockTypes, .ref aBV_labelTypes, .ref aBV_unreachable, .int (iI zBo.openCount), .int (bI x9.1.failed)])), (aBV_types, .inl (cI, 2000, .inl (fun k9 => iI (x9.2.types k9)))), (aBV_bases, .inl (cI, 101, .inl (fun k9 => iI (zBo.bases k9)))), (aBV_unreachable, .inl (cZ, 101, .inl (fun k9 => bI (zBo.unreachable k9))))]) (fun _ => False))) ([.ref aBV, .int (iI v_op), .int (iI v_type)] : List Value).toArray s 0 0 A) (F0 m 24 ls [])) [(aBV, .inr (5, [.ref aWa, .ref aCo, .int (iI y_2.1.function), .ref aBV_types, .int (iI y_2.2.height), .ref aBV_openers, .ref aBV_bases, .ref aBV_blockTypes, .ref aBV_labelTypes, .ref aBV_unreachable, .int (iI zBo.openCount), .int (bI y_2.1.failed)])), (aBV_types, .inl (cI, 2000, .inl (fun k9 => iI (y_2.2.types k9)))), (aBV_bases, .inl (cI, 101, .inl (fun k9 => iI (zBo.bases k9)))), (aBV_unreachable, .inl (cZ, 101, .inl (fun k9 => bI (zBo.unreachable k9))))] := by
      intro y_2 hy_2 hf H_5 locs_5 hP_5 hD_5 hS_5 ls hl
      clear hS hD hP
      replace hf := (congrFun hK_3 y_2).symm.trans hf
      clear hK_3
      refine lv_iload_n hx hb d_BV_checkLocal_24 rfl (lv_at hl 1 rfl) ?_
      refine lv_bipush (v := iI 33) hx hb d_BV_checkLocal_25 (by decide) ?_
      refine jpE hf (fun K_5 hK_5 hf9 => ?_)
      replace hf := hf9
      clear hf9
      have hJK_5 : ∀ (y_4 : KBV × KBt), KBV.Ok y_4.1 ∧ KBt.Ok y_4.2 → K_5 y_4 = R9 → ∀ (H_5 : Heap) (locs_5 : List Loc), (fun w9 => va_P G classes w9 H_5 → va_D A w9 → va_S A s.heap H_5 locs_5 → ∀ (ls : Array Slot), lv_has ls 3 [(0, .ref aBV), (1, .int (iI v_op)), (2, .int (iI v_type))] → W p l e (headSpec (wx y_BV_checkLocal b_BV_checkLocal 3 none) { frames := 1, cells := 0, slots := 0, locals := 22 }).room s m ([.ref aBV, .int (iI v_op), .int (iI v_type)] : List Value).toArray below meth c H_5 locs_5 0 0 (MX below (XQ G classes A (fun o w1 => ozp R9 (fun x9 => (KBV.Ok x9.1 ∧ KBt.Ok x9.2) ∧ o = .returned none ∧ w1 = [(aBV, .inr (5, [.ref aWa, .ref aCo, .int (iI x9.1.function), .ref aBV_types, .int (iI x9.2.height), .ref aBV_openers, .ref aBV_bases, .ref aBV_blockTypes, .ref aBV_labelTypes, .ref aBV_unreachable, .int (iI zBo.openCount), .int (bI x9.1.failed)])), (aBV_types, .inl (cI, 2000, .inl (fun k9 => iI (x9.2.types k9)))), (aBV_bases, .inl (cI, 101, .inl (fun k9 => iI (zBo.bases k9)))), (aBV_unreachable, .inl (cZ, 101, .inl (fun k9 => bI (zBo.unreachable k9))))]) (fun _ => False))) ([.ref aBV, .int (iI v_op), .int (iI v_type)] : List Value).toArray s 0 0 A) (F0 m 35 ls [])) [(aBV, .inr (5, [.ref aWa, .ref aCo, .int (iI y_4.1.function), .ref aBV_types, .int (iI y_4.2.height), .ref aBV_openers, .ref aBV_bases, .ref aBV_blockTypes, .ref aBV_labelTypes, .ref aBV_unreachable, .int (iI zBo.openCount), .int (bI y_4.1.failed)])), (aBV_types, .inl (cI, 2000, .inl (fun k9 => iI (y_4.2.types k9)))), (aBV_bases, .inl (cI, 101, .inl (fun k9 => iI (zBo.bases k9)))), (aBV_unreachable, .inl (cZ, 101, .inl (fun k9 => bI (zBo.unreachable k9))))] := by
        intro y_4 hy_4 hf H_7 locs_7 hP_7 hD_7 hS_7 ls hl
        clear hS_5 hD_5 hP_5
        replace hf := (congrFun hK_5 y_4).symm.trans hf
        clear hK_5
        exact ex_W (fun _ h => ex_mq h) (W.vret hx hb hr (fun t ht hW => ⟨⟨_, ozr hf ⟨⟨hy_4.1, hy_4.2⟩, rfl, rfl⟩, by rw [ht]; exact hP_7, hD_7⟩, hS_7.F ht⟩) hS_7.2.2 d_BV_checkLocal_35)
      clear hK_5
      refine lv_icmp_eq (tgt := 35) hx hb d_BV_checkLocal_27 (by decide) (fun c_6 => ?_) (fun c_6 => ?_)
      · have c_6 := ((zv_eq (iI_t hv_op) (iI_t (show R32 (33) by decide)))).mp c_6
        replace hf := ifp c_6 hf
        exact hJK_5 (y_2.1, y_2.2) ⟨hy_2.1, hy_2.2⟩ hf _ _ hP_5 hD_5 hS_5 _ (lv_sub hl [0, 1, 2] rfl)
      · have c_6 := (fun q9 => c_6 (((zv_eq (iI_t hv_op) (iI_t (show R32 (33) by decide)))).mpr q9))
        replace hf := ifn c_6 hf
        refine lv_aload_n hx hb d_BV_checkLocal_30 rfl (lv_at hl 0 rfl) ?_
        refine lv_iload_n hx hb d_BV_checkLocal_31 rfl (lv_at hl 2 rfl) ?_
        replace hf := obE hnb hf
        obtain ⟨x_7, e_8, hf⟩ := hf
        refine xx_callV (wc := [(aBV, .inr (5, [.ref aWa, .ref aCo, .int (iI y_2.1.function), .ref aBV_types, .int (iI y_2.2.height), .ref aBV_openers, .ref aBV_bases, .ref aBV_blockTypes, .ref aBV_labelTypes, .ref aBV_unreachable, .int (iI zBo.openCount), .int (bI y_2.1.failed)])), (aBV_types, .inl (cI, 2000, .inl (fun k9 => iI (y_2.2.types k9))))]) (wr := [(aBV_bases, .inl (cI, 101, .inl (fun k9 => iI (zBo.bases k9)))), (aBV_unreachable, .inl (cZ, 101, .inl (fun k9 => bI (zBo.unreachable k9))))]) (As := [.int (iI v_type)]) (rest := []) ⟨hx, hb, hml, hown, hts⟩ xE_st hK hE hA (k_BV_push l htr G cB cI cJ cZ cG aBV aWa aCo aBV_types aBV_openers aBV_bases aBV_blockTypes aBV_labelTypes aBV_unreachable y_2.1 y_2.2 zBo hy_2.1 hy_2.2 hzBo v_type hv_type (.ret x_7) e_8 ret_nb _) (xw_V 1 hts m_820 m_822 ms_BV_push m_6 m_823 (by decide +kernel) ⟨(Nat.le_of_ble_eq_true rfl), (Nat.le_of_ble_eq_true rfl)⟩) hP_5 hD_5 hS_5 [0, 1] [2, 3] rfl rfl (by decide +kernel) (by decide +kernel) (by decide +kernel) 0 5 rfl rfl rfl rfl hl.1 rfl (Nat.le_of_ble_eq_true rfl) d_BV_checkLocal_32 ⟨(Nat.le_of_ble_eq_true rfl), (Nat.le_of_ble_eq_true rfl)⟩ (fun v9 w9 H_8 locs_8 hp hP_8 hD_8 hS_8 => ?_) (fun x9 w9 H9 l9 hp _ _ _ => absurd hp (fun q9 => by obtain ⟨-, ho, -⟩ := q9; cases ho))
        clear hS_5 hD_5 hP_5
        obtain ⟨hx_7, ho, rfl⟩ := hp
        cases ho
        have hQ9 : (fun w9 => va_P G classes w9 H_8 ∧ va_D A w9) [(aBV_bases, .inl (cI, 101, .inl (fun k9 => iI (zBo.bases k9)))), (aBV_unreachable, .inl (cZ, 101, .inl (fun k9 => bI (zBo.unreachable k9)))), (aBV, .inr (5, [.ref aWa, .ref aCo, .int (iI x_7.1.function), .ref aBV_types, .int (iI x_7.2.height), .ref aBV_openers, .ref aBV_bases, .ref aBV_blockTypes, .ref aBV_labelTypes, .ref aBV_unreachable, .int (iI zBo.openCount), .int (bI x_7.1.failed)])), (aBV_types, .inl (cI, 2000, .inl (fun k9 => iI (x_7.2.types k9))))] := ⟨hP_8, hD_8⟩
        clear hP_8 hD_8
        obtain ⟨hP_8, hD_8⟩ := hQ9
        exact hJK_5 (x_7.1, x_7.2) ⟨hx_7.1, hx_7.2⟩ hf _ _ (hP_8.sub [2, 3, 0, 1] rfl) (hD_8.sub [2, 3, 0, 1] (by decide +kernel) rfl) hS_8 _ (lv_sub hl [0, 1, 2] rfl)
    clear hK_3
    refine lv_icmp_eq (tgt := 24) hx hb d_BV_checkLocal_15 (by decide) (fun c_9 => ?_) (fun c_9 => ?_)
    · have c_9 := ((zv_eq (iI_t hv_op) (iI_t (show R32 (32) by decide)))).mp c_9
      replace hf := ifp c_9 hf
      exact hJK_3 (zBV, zBt) ⟨hzBV, hzBt⟩ hf _ _ hP hD hS _ (lv_sub hl [0, 1, 2] rfl)
    · have c_9 := (fun q9 => c_9 (((zv_eq (iI_t hv_op) (iI_t (show R32 (32) by decide)))).mpr q9))
      replace hf := ifn c_9 hf
      refine lv_aload_n hx hb d_BV_checkLocal_18 rfl (lv_at hl 0 rfl) ?_
      refine lv_iload_n hx hb d_BV_checkLocal_19 rfl (lv_at hl 2 rfl) ?_
      replace hf := obE hnb hf
      obtain ⟨x_10, e_11, hf⟩ := hf
      refine xx_callV (wc := [(aBV, .inr (5, [.ref aWa, .ref aCo, .int (iI zBV.function), .ref aBV_types, .int (iI zBt.height), .ref aBV_openers, .ref aBV_bases, .ref aBV_blockTypes, .ref aBV_labelTypes, .ref aBV_unreachable, .int (iI zBo.openCount), .int (bI zBV.failed)])), (aBV_types, .inl (cI, 2000, .inl (fun k9 => iI (zBt.types k9)))), (aBV_bases, .inl (cI, 101, .inl (fun k9 => iI (zBo.bases k9)))), (aBV_unreachable, .inl (cZ, 101, .inl (fun k9 => bI (zBo.unreachable k9))))]) (wr := []) (As := [.int (iI v_type)]) (rest := []) ⟨hx, hb, hml, hown, hts⟩ xE_st hK hE hA (k_BV_pop l htr G cB cI cJ cZ cG aBV aWa aCo aBV_types aBV_openers aBV_bases aBV_blockTypes aBV_labelTypes aBV_unreachable zBV zBt zBo hzBV hzBt hzBo v_type hv_type (.ret x_10) e_11 ret_nb _) (xw_V 1 hts m_804 m_806 ms_BV_pop m_6 m_807 (by decide +kernel) ⟨(Nat.le_of_ble_eq_true rfl), (Nat.le_of_ble_eq_true rfl)⟩) hP hD hS [0, 1, 2, 3] [] rfl rfl (by decide +kernel) (by decide +kernel) (by decide +kernel) 0 5 rfl rfl rfl rfl hl.1 rfl (Nat.le_of_ble_eq_true rfl) d_BV_checkLocal_20 ⟨(Nat.le_of_ble_eq_true rfl), (Nat.le_of_ble_eq_true rfl)⟩ (fun v9 w9 H_9 locs_9 hp hP_9 hD_9 hS_9 => ?_) (fun x9 w9 H9 l9 hp _ _ _ => absurd hp (fun q9 => by obtain ⟨-, ho, -⟩ := q9; cases ho))
      clear hS hD hP
      obtain ⟨hx_10, ho, rfl⟩ := hp
      cases ho
      have hQ9 : (fun w9 => va_P G classes w9 H_9 ∧ va_D A w9) [(aBV, .inr (5, [.ref aWa, .ref aCo, .int (iI x_10.1.function), .ref aBV_types, .int (iI x_10.2.1.height), .ref aBV_openers, .ref aBV_bases, .ref aBV_blockTypes, .ref aBV_labelTypes, .ref aBV_unreachable, .int (iI zBo.openCount), .int (bI x_10.1.failed)])), (aBV_types, .inl (cI, 2000, .inl (fun k9 => iI (x_10.2.1.types k9)))), (aBV_bases, .inl (cI, 101, .inl (fun k9 => iI (zBo.bases k9)))), (aBV_unreachable, .inl (cZ, 101, .inl (fun k9 => bI (zBo.unreachable k9))))] := ⟨hP_9, hD_9⟩
      clear hP_9 hD_9
      obtain ⟨hP_9, hD_9⟩ := hQ9
      refine lv_pop hx hb d_BV_checkLocal_23 rfl ?_
      exact hJK_3 (x_10.1, x_10.2.1) ⟨hx_10.1, hx_10.2.1⟩ hf _ _ hP_9 hD_9 hS_9 _ (lv_sub hl [0, 1, 2] rfl)
  · have c_1 := ((zv_eq (iI_t hv_type) (iI_t (show R32 (64) by decide)))).mp c_1
    replace hf := ifp c_1 hf
    refine lv_aload_n hx hb d_BV_checkLocal_6 rfl (lv_at hl 0 rfl) ?_
    refine lv_iconst (v := iI 1) hx hb d_BV_checkLocal_7 (by decide) ?_
    refine W.eq (g2 := F0 m 8 ls [.int (bI true), .ref aBV]) (by rfl) ?_
    refine va_put (D := G) (ci := 5) (v := .int (bI true)) (ty := .boolean) (C := R_BV) (T := F_BV) (N := 12) hx hb hts i_BV t_BV t_BV_ok n_BV hown hK hP hD hS 0 rfl rfl 11 (by decide) (hts _ m_119) (fun _ h9 => h9) rfl (by decide +kernel) (bI_nar _) (bI_fit _) (Nat.le_of_ble_eq_true rfl) d_BV_checkLocal_8 (fun H_10 locs_10 hP_10 hD_10 hS_10 => ?_)
    clear hS hD hP
    have hQ9 : (fun w9 => va_P G classes w9 H_10 ∧ va_D A w9) [(aBV, .inr (5, [.ref aWa, .ref aCo, .int (iI zBV.function), .ref aBV_types, .int (iI zBt.height), .ref aBV_openers, .ref aBV_bases, .ref aBV_blockTypes, .ref aBV_labelTypes, .ref aBV_unreachable, .int (iI zBo.openCount), .int (bI true)])), (aBV_types, .inl (cI, 2000, .inl (fun k9 => iI (zBt.types k9)))), (aBV_bases, .inl (cI, 101, .inl (fun k9 => iI (zBo.bases k9)))), (aBV_unreachable, .inl (cZ, 101, .inl (fun k9 => bI (zBo.unreachable k9))))] := ⟨hP_10, hD_10⟩
    clear hP_10 hD_10
    obtain ⟨hP_10, hD_10⟩ := hQ9
    exact ex_W (fun _ h => ex_mq h) (W.vret hx hb hr (fun t ht hW => ⟨⟨_, ozr hf ⟨⟨(KBV.Ok.mk hzBV.function : KBV.Ok (KBV.mk zBV.function true)), hzBt⟩, rfl, rfl⟩, by rw [ht]; exact hP_10, hD_10⟩, hS_10.F ht⟩) hS_10.2.2 d_BV_checkLocal_11)
set_option maxHeartbeats 8000000 in
set_option maxRecDepth 100000 in
theorem k_BV_checkGlobal (l : Launch) (htr : l.stackTraces = false) (G : va_G) (cB cI cJ cZ cG : ClassId) (aWa : Nat) (aWa_parameterCounts : Nat) (aWa_parameters : Nat) (aWa_results : Nat) (aWa_functionTypes : Nat) (aWa_starts : Nat) (aWa_localCounts : Nat) (aWa_locals : Nat) (aWa_globalTypes : Nat) (aWa_globalsChange : Nat) (aWa_initialTypes : Nat) (aWa_initialValues : Nat) (aEx : Nat) (aCo : Nat) (aBV : Nat) (aBV_types : Nat) (aBV_openers : Nat) (aBV_bases : Nat) (aBV_blockTypes : Nat) (aBV_labelTypes : Nat) (aBV_unreachable : Nat) (zW1 : KW1) (zW3 : KW3) (zW5 : KW5) (zW6 : KW6) (zBV : KBV) (zBt : KBt) (zBo : KBo) (hzW1 : KW1.Ok zW1) (hzW3 : KW3.Ok zW3) (hzW5 : KW5.Ok zW5) (hzW6 : KW6.Ok zW6) (hzBV : KBV.Ok zBV) (hzBt : KBt.Ok zBt) (hzBo : KBo.Ok zBo) (v_op : Int) (v_index : Int64) (hv_op : R32 v_op) (R9 : Out Empty (KBV × KBt)) (hf : f_BV_checkGlobal zW6 zBV zBt zBo v_op v_index = R9) (hnb : R9 ≠ .bad) (sz : Nat) : MetX l y_BV_checkGlobal (wx y_BV_checkGlobal b_BV_checkGlobal 5 none) { frames := 1, cells := 0, slots := 0, locals := 22 } (XP G classes (xtys cB cI cJ cZ cG) xE [.ref aBV, .int (iI v_op), .long v_index] [(aWa, .inr (7, [.int (iI zW1.typeCount), .ref aWa_parameterCounts, .ref aWa_parameters, .ref aWa_results, .int (iI zW3.functionCount), .ref aWa_functionTypes, .ref aWa_starts, .ref aWa_localCounts, .ref aWa_locals, .int (bI zW5.hasMemory), .long zW5.pagesAtFirst, .long zW5.pagesMost, .int (iI zW6.globalCount), .ref aWa_globalTypes, .ref aWa_globalsChange, .ref aWa_initialTypes, .ref aWa_initialValues, .ref aEx, .ref aCo])), (aWa_globalTypes, .inl (cI, 20, .inl (fun k9 => iI (zW6.globalTypes k9)))), (aWa_globalsChange, .inl (cZ, 20, .inl (fun k9 => bI (zW6.globalsChange k9)))), (aBV, .inr (5, [.ref aWa, .ref aCo, .int (iI zBV.function), .ref aBV_types, .int (iI zBt.height), .ref aBV_openers, .ref aBV_bases, .ref aBV_blockTypes, .ref aBV_labelTypes, .ref aBV_unreachable, .int (iI zBo.openCount), .int (bI zBV.failed)])), (aBV_types, .inl (cI, 2000, .inl (fun k9 => iI (zBt.types k9)))), (aBV_bases, .inl (cI, 101, .inl (fun k9 => iI (zBo.bases k9)))), (aBV_unreachable, .inl (cZ, 101, .inl (fun k9 => bI (zBo.unreachable k9))))] sz) (XQ G classes (va_A [(aWa, .inr (7, [.int (iI zW1.typeCount), .ref aWa_parameterCounts, .ref aWa_parameters, .ref aWa_results, .int (iI zW3.functionCount), .ref aWa_functionTypes, .ref aWa_starts, .ref aWa_localCounts, .ref aWa_locals, .int (bI zW5.hasMemory), .long zW5.pagesAtFirst, .long zW5.pagesMost, .int (iI zW6.globalCount), .ref aWa_globalTypes, .ref aWa_globalsChange, .ref aWa_initialTypes, .ref aWa_initialValues, .ref aEx, .ref aCo])), (aWa_globalTypes, .inl (cI, 20, .inl (fun k9 => iI (zW6.globalTypes k9)))), (aWa_globalsChange, .inl (cZ, 20, .inl (fun k9 => bI (zW6.globalsChange k9)))), (aBV, .inr (5, [.ref aWa, .ref aCo, .int (iI zBV.function), .ref aBV_types, .int (iI zBt.height), .ref aBV_openers, .ref aBV_bases, .ref aBV_blockTypes, .ref aBV_labelTypes, .ref aBV_unreachable, .int (iI zBo.openCount), .int (bI zBV.failed)])), (aBV_types, .inl (cI, 2000, .inl (fun k9 => iI (zBt.types k9)))), (aBV_bases, .inl (cI, 101, .inl (fun k9 => iI (zBo.bases k9)))), (aBV_unreachable, .inl (cZ, 101, .inl (fun k9 => bI (zBo.unreachable k9))))] sz) (fun o w1 => ozp R9 (fun x9 => (KBV.Ok x9.1 ∧ KBt.Ok x9.2) ∧ o = .returned none ∧ w1 = [(aWa, .inr (7, [.int (iI zW1.typeCount), .ref aWa_parameterCounts, .ref aWa_parameters, .ref aWa_results, .int (iI zW3.functionCount), .ref aWa_functionTypes, .ref aWa_starts, .ref aWa_localCounts, .ref aWa_locals, .int (bI zW5.hasMemory), .long zW5.pagesAtFirst, .long zW5.pagesMost, .int (iI zW6.globalCount), .ref aWa_globalTypes, .ref aWa_globalsChange, .ref aWa_initialTypes, .ref aWa_initialValues, .ref aEx, .ref aCo])), (aWa_globalTypes, .inl (cI, 20, .inl (fun k9 => iI (zW6.globalTypes k9)))), (aWa_globalsChange, .inl (cZ, 20, .inl (fun k9 => bI (zW6.globalsChange k9)))), (aBV, .inr (5, [.ref aWa, .ref aCo, .int (iI x9.1.function), .ref aBV_types, .int (iI x9.2.height), .ref aBV_openers, .ref aBV_bases, .ref aBV_blockTypes, .ref aBV_labelTypes, .ref aBV_unreachable, .int (iI zBo.openCount), .int (bI x9.1.failed)])), (aBV_types, .inl (cI, 2000, .inl (fun k9 => iI (x9.2.types k9)))), (aBV_bases, .inl (cI, 101, .inl (fun k9 => iI (zBo.bases k9)))), (aBV_unreachable, .inl (cZ, 101, .inl (fun k9 => bI (zBo.unreachable k9))))]) (fun _ => False))) 0 0 (va_A [(aWa, .inr (7, [.int (iI zW1.typeCount), .ref aWa_parameterCounts, .ref aWa_parameters, .ref aWa_results, .int (iI zW3.functionCount), .ref aWa_functionTypes, .ref aWa_starts, .ref aWa_localCounts, .ref aWa_locals, .int (bI zW5.hasMemory), .long zW5.pagesAtFirst, .long zW5.pagesMost, .int (iI zW6.globalCount), .ref aWa_globalTypes, .ref aWa_globalsChange, .ref aWa_initialTypes, .ref aWa_initialValues, .ref aEx, .ref aCo])), (aWa_globalTypes, .inl (cI, 20, .inl (fun k9 => iI (zW6.globalTypes k9)))), (aWa_globalsChange, .inl (cZ, 20, .inl (fun k9 => bI (zW6.globalsChange k9)))), (aBV, .inr (5, [.ref aWa, .ref aCo, .int (iI zBV.function), .ref aBV_types, .int (iI zBt.height), .ref aBV_openers, .ref aBV_bases, .ref aBV_blockTypes, .ref aBV_labelTypes, .ref aBV_unreachable, .int (iI zBo.openCount), .int (bI zBV.failed)])), (aBV_types, .inl (cI, 2000, .inl (fun k9 => iI (zBt.types k9)))), (aBV_bases, .inl (cI, 101, .inl (fun k9 => iI (zBo.bases k9)))), (aBV_unreachable, .inl (cZ, 101, .inl (fun k9 => bI (zBo.unreachable k9))))] sz) := by
  refine ex_ofW (cc := b_BV_checkGlobal) (maxL := 5) (ret := none) (by decide) rfl ?_
  intro p e s m args below meth c s₁ B hml hno hv
  obtain ⟨rfl, hsz, hP, hK, hD0, hE⟩ := hv
  have hx := B.exec
  have hb := B.bytes
  have hr := B.returns
  have hts : ∀ w ∈ lw_good, w.before _ s = true := fun w h => atoms_spec (ws := wx y_BV_checkGlobal b_BV_checkGlobal 5 none) B.pre w (List.mem_cons_of_mem _ h)
  have hown : s.vm.findClass R_BV = some m.cls := findClass_of_methodNamed B.named
  have hlocks := B.notSynchronized
  subst hsz
  have hNS := xx_nostat hP
  have hD := hD0.self (sz := s.heap.size)
  generalize hAe : va_A [(aWa, .inr (7, [.int (iI zW1.typeCount), .ref aWa_parameterCounts, .ref aWa_parameters, .ref aWa_results, .int (iI zW3.functionCount), .ref aWa_functionTypes, .ref aWa_starts, .ref aWa_localCounts, .ref aWa_locals, .int (bI zW5.hasMemory), .long zW5.pagesAtFirst, .long zW5.pagesMost, .int (iI zW6.globalCount), .ref aWa_globalTypes, .ref aWa_globalsChange, .ref aWa_initialTypes, .ref aWa_initialValues, .ref aEx, .ref aCo])), (aWa_globalTypes, .inl (cI, 20, .inl (fun k9 => iI (zW6.globalTypes k9)))), (aWa_globalsChange, .inl (cZ, 20, .inl (fun k9 => bI (zW6.globalsChange k9)))), (aBV, .inr (5, [.ref aWa, .ref aCo, .int (iI zBV.function), .ref aBV_types, .int (iI zBt.height), .ref aBV_openers, .ref aBV_bases, .ref aBV_blockTypes, .ref aBV_labelTypes, .ref aBV_unreachable, .int (iI zBo.openCount), .int (bI zBV.failed)])), (aBV_types, .inl (cI, 2000, .inl (fun k9 => iI (zBt.types k9)))), (aBV_bases, .inl (cI, 101, .inl (fun k9 => iI (zBo.bases k9)))), (aBV_unreachable, .inl (cZ, 101, .inl (fun k9 => bI (zBo.unreachable k9))))] s.heap.size = A at hD hE hNS ⊢
  have hA : ∀ q : Nat, s.heap.size ≤ q → A q := fun q h => by rw [← hAe]; exact Or.inr h
  have hS : va_S A s.heap s.heap [] := va_S.rf
  have hl := lv_entry ([.ref aBV, .int (iI v_op), .long v_index]) (n := 5) (Nat.le_of_ble_eq_true rfl)
  rw [lg_entry_eq]
  generalize (lg_sl ([.ref aBV, .int (iI v_op), .long v_index]) ++ List.replicate (5 - (lg_sl ([.ref aBV, .int (iI v_op), .long v_index])).length) Slot.unset).toArray = ls at hl ⊢
  have hl : lv_has ls 5 [(0, .ref aBV), (1, .int (iI v_op)), (2, .long v_index)] := hl
  unfold f_BV_checkGlobal at hf
  refine lv_lload_n hx hb d_BV_checkGlobal_0 rfl (lv_at hl 2 rfl) ?_
  refine lv_aload_n hx hb d_BV_checkGlobal_1 rfl (lv_at hl 0 rfl) ?_
  refine va_get (D := G) (ci := 5) (v := .ref aWa) (C := R_BV) (T := F_BV) (N := 12) hx hb hts i_BV hown hK hP 3 rfl rfl 0 (by decide) (hts _ m_108) (fun _ h9 => h9) rfl d_BV_checkGlobal_2 ?_
  refine va_get (D := G) (ci := 7) (v := .int (iI zW6.globalCount)) (C := R_Wa) (T := F_Wa) (N := 19) hx hb hts i_Wa hown hK hP 0 rfl rfl 12 (by decide) (hts _ m_357) (fun _ h9 => h9) rfl d_BV_checkGlobal_5 ?_
  refine lv_i2l hx hb d_BV_checkGlobal_8 rfl ?_
  refine W.lcmp hx hb d_BV_checkGlobal_9 ?_
  refine lv_if_lt (tgt := 19) hx hb d_BV_checkGlobal_10 (by decide) (fun c_1 => ?_) (fun c_1 => ?_)
  · have c_1 := (lc_lt).mp c_1
    replace hf := ifp c_1 hf
    refine lv_lload_n hx hb d_BV_checkGlobal_19 rfl (lv_at hl 2 rfl) ?_
    refine lv_l2i hx hb d_BV_checkGlobal_20 rfl ?_
    refine W.eq (g2 := F0 m 21 ls [.int (iI v_index.toInt32.toInt)]) (by rw [← iI_of v_index.toInt32] <;> rfl) ?_
    refine lv_istore (lv' := [(4, .int (iI v_index.toInt32.toInt)), (0, .ref aBV), (1, .int (iI v_op)), (2, .long v_index)]) hx hb d_BV_checkGlobal_21 hl (by decide) rfl (fun ls hl => ?_)
    refine lv_iload_n hx hb d_BV_checkGlobal_23 rfl (lv_at hl 2 rfl) ?_
    refine lv_bipush (v := iI 35) hx hb d_BV_checkGlobal_24 (by decide) ?_
    refine lv_icmp_ne (tgt := 44) hx hb d_BV_checkGlobal_26 (by decide) (fun c_2 => ?_) (fun c_2 => ?_)
    · have c_2 := (fun q9 => c_2 (((zv_eq (iI_t hv_op) (iI_t (show R32 (35) by decide)))).mpr q9))
      replace hf := ifn c_2 hf
      refine lv_aload_n hx hb d_BV_checkGlobal_44 rfl (lv_at hl 1 rfl) ?_
      refine va_get (D := G) (ci := 5) (v := .ref aWa) (C := R_BV) (T := F_BV) (N := 12) hx hb hts i_BV hown hK hP 3 rfl rfl 0 (by decide) (hts _ m_108) (fun _ h9 => h9) rfl d_BV_checkGlobal_45 ?_
      refine va_get (D := G) (ci := 7) (v := .ref aWa_globalsChange) (C := R_Wa) (T := F_Wa) (N := 19) hx hb hts i_Wa hown hK hP 0 rfl rfl 14 (by decide) (hts _ m_364) (fun _ h9 => h9) rfl d_BV_checkGlobal_48 ?_
      refine lv_iload hx hb d_BV_checkGlobal_51 (lv_at hl 0 rfl) ?_
      replace hf := grd hnb hf
      obtain ⟨g_3, hf⟩ := hf
      refine va_zald hx hb hK hP 2 3 rfl rfl (vp_in_iI (R32_of _) g_3) d_BV_checkGlobal_53 ?_
      refine W.eq (g2 := F0 m 54 ls [.int (bI (zW6.globalsChange v_index.toInt32.toInt.toNat))]) (by rw [iI_clamp (R32_of _)] <;> rfl) ?_
      refine jpE hf (fun K_5 hK_5 hf9 => ?_)
      replace hf := hf9
      clear hf9
      have hJK_5 : ∀ (y_4 : KBV), KBV.Ok y_4 → K_5 y_4 = R9 → ∀ (H : Heap) (locs : List Loc), (fun w9 => va_P G classes w9 H → va_D A w9 → va_S A s.heap H locs → ∀ (ls : Array Slot), lv_has ls 5 [(0, .ref aBV), (1, .int (iI v_op)), (2, .long v_index), (4, .int (iI v_index.toInt32.toInt))] → W p l e (headSpec (wx y_BV_checkGlobal b_BV_checkGlobal 5 none) { frames := 1, cells := 0, slots := 0, locals := 22 }).room s m ([.ref aBV, .int (iI v_op), .long v_index] : List Value).toArray below meth c H locs 0 0 (MX below (XQ G classes A (fun o w1 => ozp R9 (fun x9 => (KBV.Ok x9.1 ∧ KBt.Ok x9.2) ∧ o = .returned none ∧ w1 = [(aWa, .inr (7, [.int (iI zW1.typeCount), .ref aWa_parameterCounts, .ref aWa_parameters, .ref aWa_results, .int (iI zW3.functionCount), .ref aWa_functionTypes, .ref aWa_starts, .ref aWa_localCounts, .ref aWa_locals, .int (bI zW5.hasMemory), .long zW5.pagesAtFirst, .long zW5.pagesMost, .int (iI zW6.globalCount), .ref aWa_globalTypes, .ref aWa_globalsChange, .ref aWa_initialTypes, .ref aWa_initialValues, .ref aEx, .ref aCo])), (aWa_globalTypes, .inl (cI, 20, .inl (fun k9 => iI (zW6.globalTypes k9)))), (aWa_globalsChange, .inl (cZ, 20, .inl (fun k9 => bI (zW6.globalsChange k9)))), (aBV, .inr (5, [.ref aWa, .ref aCo, .int (iI x9.1.function), .ref aBV_types, .int (iI x9.2.height), .ref aBV_openers, .ref aBV_bases, .ref aBV_blockTypes, .ref aBV_labelTypes, .ref aBV_unreachable, .int (iI zBo.openCount), .int (bI x9.1.failed)])), (aBV_types, .inl (cI, 2000, .inl (fun k9 => iI (x9.2.types k9)))), (aBV_bases, .inl (cI, 101, .inl (fun k9 => iI (zBo.bases k9)))), (aBV_unreachable, .inl (cZ, 101, .inl (fun k9 => bI (zBo.unreachable k9))))]) (fun _ => False))) ([.ref aBV, .int (iI v_op), .long v_index] : List Value).toArray s 0 0 A) (F0 m 62 ls [])) [(aWa, .inr (7, [.int (iI zW1.typeCount), .ref aWa_parameterCounts, .ref aWa_parameters, .ref aWa_results, .int (iI zW3.functionCount), .ref aWa_functionTypes, .ref aWa_starts, .ref aWa_localCounts, .ref aWa_locals, .int (bI zW5.hasMemory), .long zW5.pagesAtFirst, .long zW5.pagesMost, .int (iI zW6.globalCount), .ref aWa_globalTypes, .ref aWa_globalsChange, .ref aWa_initialTypes, .ref aWa_initialValues, .ref aEx, .ref aCo])), (aWa_globalTypes, .inl (cI, 20, .inl (fun k9 => iI (zW6.globalTypes k9)))), (aWa_globalsChange, .inl (cZ, 20, .inl (fun k9 => bI (zW6.globalsChange k9)))), (aBV, .inr (5, [.ref aWa, .ref aCo, .int (iI y_4.function), .ref aBV_types, .int (iI zBt.height), .ref aBV_openers, .ref aBV_bases, .ref aBV_blockTypes, .ref aBV_labelTypes, .ref aBV_unreachable, .int (iI zBo.openCount), .int (bI y_4.failed)])), (aBV_types, .inl (cI, 2000, .inl (fun k9 => iI (zBt.types k9)))), (aBV_bases, .inl (cI, 101, .inl (fun k9 => iI (zBo.bases k9)))), (aBV_unreachable, .inl (cZ, 101, .inl (fun k9 => bI (zBo.unreachable k9))))] := by
        intro y_4 hy_4 hf H_3 locs_3 hP_3 hD_3 hS_3 ls hl
        clear hS hD hP
        replace hf := (congrFun hK_5 y_4).symm.trans hf
        clear hK_5
        refine lv_aload_n hx hb d_BV_checkGlobal_62 rfl (lv_at hl 0 rfl) ?_
        refine lv_aload_n hx hb d_BV_checkGlobal_63 rfl (lv_at hl 0 rfl) ?_
        refine va_get (D := G) (ci := 5) (v := .ref aWa) (C := R_BV) (T := F_BV) (N := 12) hx hb hts i_BV hown hK hP_3 3 rfl rfl 0 (by decide) (hts _ m_108) (fun _ h9 => h9) rfl d_BV_checkGlobal_64 ?_
        refine va_get (D := G) (ci := 7) (v := .ref aWa_globalTypes) (C := R_Wa) (T := F_Wa) (N := 19) hx hb hts i_Wa hown hK hP_3 0 rfl rfl 13 (by decide) (hts _ m_361) (fun _ h9 => h9) rfl d_BV_checkGlobal_67 ?_
        refine lv_iload hx hb d_BV_checkGlobal_70 (lv_at hl 3 rfl) ?_
        replace hf := grd hnb hf
        obtain ⟨g_6, hf⟩ := hf
        refine va_iald hx hb hK hP_3 1 1 rfl rfl (vp_in_iI (R32_of _) g_6) d_BV_checkGlobal_72 ?_
        refine W.eq (g2 := F0 m 73 ls [.int (iI (zW6.globalTypes v_index.toInt32.toInt.toNat)), .ref aBV]) (by rw [iI_clamp (R32_of _)] <;> rfl) ?_
        replace hf := obE hnb hf
        obtain ⟨x_7, e_8, hf⟩ := hf
        refine xx_callV (wc := [(aBV, .inr (5, [.ref aWa, .ref aCo, .int (iI y_4.function), .ref aBV_types, .int (iI zBt.height), .ref aBV_openers, .ref aBV_bases, .ref aBV_blockTypes, .ref aBV_labelTypes, .ref aBV_unreachable, .int (iI zBo.openCount), .int (bI y_4.failed)])), (aBV_types, .inl (cI, 2000, .inl (fun k9 => iI (zBt.types k9)))), (aBV_bases, .inl (cI, 101, .inl (fun k9 => iI (zBo.bases k9)))), (aBV_unreachable, .inl (cZ, 101, .inl (fun k9 => bI (zBo.unreachable k9))))]) (wr := [(aWa, .inr (7, [.int (iI zW1.typeCount), .ref aWa_parameterCounts, .ref aWa_parameters, .ref aWa_results, .int (iI zW3.functionCount), .ref aWa_functionTypes, .ref aWa_starts, .ref aWa_localCounts, .ref aWa_locals, .int (bI zW5.hasMemory), .long zW5.pagesAtFirst, .long zW5.pagesMost, .int (iI zW6.globalCount), .ref aWa_globalTypes, .ref aWa_globalsChange, .ref aWa_initialTypes, .ref aWa_initialValues, .ref aEx, .ref aCo])), (aWa_globalTypes, .inl (cI, 20, .inl (fun k9 => iI (zW6.globalTypes k9)))), (aWa_globalsChange, .inl (cZ, 20, .inl (fun k9 => bI (zW6.globalsChange k9))))]) (As := [.int (iI (zW6.globalTypes v_index.toInt32.toInt.toNat))]) (rest := []) ⟨hx, hb, hml, hown, hts⟩ xE_st hK hE hA (k_BV_pop l htr G cB cI cJ cZ cG aBV aWa aCo aBV_types aBV_openers aBV_bases aBV_blockTypes aBV_labelTypes aBV_unreachable y_4 zBt zBo hy_4 hzBt hzBo (zW6.globalTypes v_index.toInt32.toInt.toNat) (hzW6.globalTypes _) (.ret x_7) e_8 ret_nb _) (xw_V 1 hts m_804 m_806 ms_BV_pop m_6 m_807 (by decide +kernel) ⟨(Nat.le_of_ble_eq_true rfl), (Nat.le_of_ble_eq_true rfl)⟩) hP_3 hD_3 hS_3 [3, 4, 5, 6] [0, 1, 2] rfl rfl (by decide +kernel) (by decide +kernel) (by decide +kernel) 0 5 rfl rfl rfl rfl hl.1 rfl (Nat.le_of_ble_eq_true rfl) d_BV_checkGlobal_73 ⟨(Nat.le_of_ble_eq_true rfl), (Nat.le_of_ble_eq_true rfl)⟩ (fun v9 w9 H_4 locs_4 hp hP_4 hD_4 hS_4 => ?_) (fun x9 w9 H9 l9 hp _ _ _ => absurd hp (fun q9 => by obtain ⟨-, ho, -⟩ := q9; cases ho))
        clear hS_3 hD_3 hP_3
        obtain ⟨hx_7, ho, rfl⟩ := hp
        cases ho
        have hQ9 : (fun w9 => va_P G classes w9 H_4 ∧ va_D A w9) [(aWa, .inr (7, [.int (iI zW1.typeCount), .ref aWa_parameterCounts, .ref aWa_parameters, .ref aWa_results, .int (iI zW3.functionCount), .ref aWa_functionTypes, .ref aWa_starts, .ref aWa_localCounts, .ref aWa_locals, .int (bI zW5.hasMemory), .long zW5.pagesAtFirst, .long zW5.pagesMost, .int (iI zW6.globalCount), .ref aWa_globalTypes, .ref aWa_globalsChange, .ref aWa_initialTypes, .ref aWa_initialValues, .ref aEx, .ref aCo])), (aWa_globalTypes, .inl (cI, 20, .inl (fun k9 => iI (zW6.globalTypes k9)))), (aWa_globalsChange, .inl (cZ, 20, .inl (fun k9 => bI (zW6.globalsChange k9)))), (aBV, .inr (5, [.ref aWa, .ref aCo, .int (iI x_7.1.function), .ref aBV_types, .int (iI x_7.2.1.height), .ref aBV_openers, .ref aBV_bases, .ref aBV_blockTypes, .ref aBV_labelTypes, .ref aBV_unreachable, .int (iI zBo.openCount), .int (bI x_7.1.failed)])), (aBV_types, .inl (cI, 2000, .inl (fun k9 => iI (x_7.2.1.types k9)))), (aBV_bases, .inl (cI, 101, .inl (fun k9 => iI (zBo.bases k9)))), (aBV_unreachable, .inl (cZ, 101, .inl (fun k9 => bI (zBo.unreachable k9))))] := ⟨hP_4, hD_4⟩
        clear hP_4 hD_4
        obtain ⟨hP_4, hD_4⟩ := hQ9
        refine lv_pop hx hb d_BV_checkGlobal_76 rfl ?_
        exact ex_W (fun _ h => ex_mq h) (W.vret hx hb hr (fun t ht hW => ⟨⟨_, ozr hf ⟨⟨hx_7.1, hx_7.2.1⟩, rfl, rfl⟩, by rw [ht]; exact hP_4, hD_4⟩, hS_4.F ht⟩) hS_4.2.2 d_BV_checkGlobal_77)
      clear hK_5
      refine lv_if_ne (tgt := 62) hx hb d_BV_checkGlobal_54 (by decide) (fun c_9 => ?_) (fun c_9 => ?_)
      · have c_9 := (zb_t c_9)
        replace hf := ifp c_9 hf
        exact hJK_5 zBV hzBV hf _ _ hP hD hS _ (lv_sub hl [1, 2, 3, 0] rfl)
      · have c_9 := (zb_f c_9)
        replace hf := ifn c_9 hf
        refine lv_aload_n hx hb d_BV_checkGlobal_57 rfl (lv_at hl 1 rfl) ?_
        refine lv_iconst (v := iI 1) hx hb d_BV_checkGlobal_58 (by decide) ?_
        refine W.eq (g2 := F0 m 59 ls [.int (bI true), .ref aBV]) (by rfl) ?_
        refine va_put (D := G) (ci := 5) (v := .int (bI true)) (ty := .boolean) (C := R_BV) (T := F_BV) (N := 12) hx hb hts i_BV t_BV t_BV_ok n_BV hown hK hP hD hS 3 rfl rfl 11 (by decide) (hts _ m_119) (fun _ h9 => h9) rfl (by decide +kernel) (bI_nar _) (bI_fit _) (Nat.le_of_ble_eq_true rfl) d_BV_checkGlobal_59 (fun H_5 locs_5 hP_5 hD_5 hS_5 => ?_)
        clear hS hD hP
        have hQ9 : (fun w9 => va_P G classes w9 H_5 ∧ va_D A w9) [(aWa, .inr (7, [.int (iI zW1.typeCount), .ref aWa_parameterCounts, .ref aWa_parameters, .ref aWa_results, .int (iI zW3.functionCount), .ref aWa_functionTypes, .ref aWa_starts, .ref aWa_localCounts, .ref aWa_locals, .int (bI zW5.hasMemory), .long zW5.pagesAtFirst, .long zW5.pagesMost, .int (iI zW6.globalCount), .ref aWa_globalTypes, .ref aWa_globalsChange, .ref aWa_initialTypes, .ref aWa_initialValues, .ref aEx, .ref aCo])), (aWa_globalTypes, .inl (cI, 20, .inl (fun k9 => iI (zW6.globalTypes k9)))), (aWa_globalsChange, .inl (cZ, 20, .inl (fun k9 => bI (zW6.globalsChange k9)))), (aBV, .inr (5, [.ref aWa, .ref aCo, .int (iI zBV.function), .ref aBV_types, .int (iI zBt.height), .ref aBV_openers, .ref aBV_bases, .ref aBV_blockTypes, .ref aBV_labelTypes, .ref aBV_unreachable, .int (iI zBo.openCount), .int (bI true)])), (aBV_types, .inl (cI, 2000, .inl (fun k9 => iI (zBt.types k9)))), (aBV_bases, .inl (cI, 101, .inl (fun k9 => iI (zBo.bases k9)))), (aBV_unreachable, .inl (cZ, 101, .inl (fun k9 => bI (zBo.unreachable k9))))] := ⟨hP_5, hD_5⟩
        clear hP_5 hD_5
        obtain ⟨hP_5, hD_5⟩ := hQ9
        exact hJK_5 (KBV.mk zBV.function true) (KBV.Ok.mk hzBV.function : KBV.Ok (KBV.mk zBV.function true)) hf _ _ hP_5 hD_5 hS_5 _ (lv_sub hl [1, 2, 3, 0] rfl)
    · have c_2 := ((zv_eq (iI_t hv_op) (iI_t (show R32 (35) by decide)))).mp c_2
      replace hf := ifp c_2 hf
      refine lv_aload_n hx hb d_BV_checkGlobal_29 rfl (lv_at hl 1 rfl) ?_
      refine lv_aload_n hx hb d_BV_checkGlobal_30 rfl (lv_at hl 1 rfl) ?_
      refine va_get (D := G) (ci := 5) (v := .ref aWa) (C := R_BV) (T := F_BV) (N := 12) hx hb hts i_BV hown hK hP 3 rfl rfl 0 (by decide) (hts _ m_108) (fun _ h9 => h9) rfl d_BV_checkGlobal_31 ?_
      refine va_get (D := G) (ci := 7) (v := .ref aWa_globalTypes) (C := R_Wa) (T := F_Wa) (N := 19) hx hb hts i_Wa hown hK hP 0 rfl rfl 13 (by decide) (hts _ m_361) (fun _ h9 => h9) rfl d_BV_checkGlobal_34 ?_
      refine lv_iload hx hb d_BV_checkGlobal_37 (lv_at hl 0 rfl) ?_
      replace hf := grd hnb hf
      obtain ⟨g_10, hf⟩ := hf
      refine va_iald hx hb hK hP 1 1 rfl rfl (vp_in_iI (R32_of _) g_10) d_BV_checkGlobal_39 ?_
      refine W.eq (g2 := F0 m 40 ls [.int (iI (zW6.globalTypes v_index.toInt32.toInt.toNat)), .ref aBV]) (by rw [iI_clamp (R32_of _)] <;> rfl) ?_
      replace hf := obE hnb hf
      obtain ⟨x_11, e_12, hf⟩ := hf
      refine xx_callV (wc := [(aBV, .inr (5, [.ref aWa, .ref aCo, .int (iI zBV.function), .ref aBV_types, .int (iI zBt.height), .ref aBV_openers, .ref aBV_bases, .ref aBV_blockTypes, .ref aBV_labelTypes, .ref aBV_unreachable, .int (iI zBo.openCount), .int (bI zBV.failed)])), (aBV_types, .inl (cI, 2000, .inl (fun k9 => iI (zBt.types k9))))]) (wr := [(aWa, .inr (7, [.int (iI zW1.typeCount), .ref aWa_parameterCounts, .ref aWa_parameters, .ref aWa_results, .int (iI zW3.functionCount), .ref aWa_functionTypes, .ref aWa_starts, .ref aWa_localCounts, .ref aWa_locals, .int (bI zW5.hasMemory), .long zW5.pagesAtFirst, .long zW5.pagesMost, .int (iI zW6.globalCount), .ref aWa_globalTypes, .ref aWa_globalsChange, .ref aWa_initialTypes, .ref aWa_initialValues, .ref aEx, .ref aCo])), (aWa_globalTypes, .inl (cI, 20, .inl (fun k9 => iI (zW6.globalTypes k9)))), (aWa_globalsChange, .inl (cZ, 20, .inl (fun k9 => bI (zW6.globalsChange k9)))), (aBV_bases, .inl (cI, 101, .inl (fun k9 => iI (zBo.bases k9)))), (aBV_unreachable, .inl (cZ, 101, .inl (fun k9 => bI (zBo.unreachable k9))))]) (As := [.int (iI (zW6.globalTypes v_index.toInt32.toInt.toNat))]) (rest := []) ⟨hx, hb, hml, hown, hts⟩ xE_st hK hE hA (k_BV_push l htr G cB cI cJ cZ cG aBV aWa aCo aBV_types aBV_openers aBV_bases aBV_blockTypes aBV_labelTypes aBV_unreachable zBV zBt zBo hzBV hzBt hzBo (zW6.globalTypes v_index.toInt32.toInt.toNat) (hzW6.globalTypes _) (.ret x_11) e_12 ret_nb _) (xw_V 1 hts m_820 m_822 ms_BV_push m_6 m_823 (by decide +kernel) ⟨(Nat.le_of_ble_eq_true rfl), (Nat.le_of_ble_eq_true rfl)⟩) hP hD hS [3, 4] [0, 1, 2, 5, 6] rfl rfl (by decide +kernel) (by decide +kernel) (by decide +kernel) 0 5 rfl rfl rfl rfl hl.1 rfl (Nat.le_of_ble_eq_true rfl) d_BV_checkGlobal_40 ⟨(Nat.le_of_ble_eq_true rfl), (Nat.le_of_ble_eq_true rfl)⟩ (fun v9 w9 H_6 locs_6 hp hP_6 hD_6 hS_6 => ?_) (fun x9 w9 H9 l9 hp _ _ _ => absurd hp (fun q9 => by obtain ⟨-, ho, -⟩ := q9; cases ho))
      clear hS hD hP
      obtain ⟨hx_11, ho, rfl⟩ := hp
      cases ho
      have hQ9 : (fun w9 => va_P G classes w9 H_6 ∧ va_D A w9) [(aWa, .inr (7, [.int (iI zW1.typeCount), .ref aWa_parameterCounts, .ref aWa_parameters, .ref aWa_results, .int (iI zW3.functionCount), .ref aWa_functionTypes, .ref aWa_starts, .ref aWa_localCounts, .ref aWa_locals, .int (bI zW5.hasMemory), .long zW5.pagesAtFirst, .long zW5.pagesMost, .int (iI zW6.globalCount), .ref aWa_globalTypes, .ref aWa_globalsChange, .ref aWa_initialTypes, .ref aWa_initialValues, .ref aEx, .ref aCo])), (aWa_globalTypes, .inl (cI, 20, .inl (fun k9 => iI (zW6.globalTypes k9)))), (aWa_globalsChange, .inl (cZ, 20, .inl (fun k9 => bI (zW6.globalsChange k9)))), (aBV_bases, .inl (cI, 101, .inl (fun k9 => iI (zBo.bases k9)))), (aBV_unreachable, .inl (cZ, 101, .inl (fun k9 => bI (zBo.unreachable k9)))), (aBV, .inr (5, [.ref aWa, .ref aCo, .int (iI x_11.1.function), .ref aBV_types, .int (iI x_11.2.height), .ref aBV_openers, .ref aBV_bases, .ref aBV_blockTypes, .ref aBV_labelTypes, .ref aBV_unreachable, .int (iI zBo.openCount), .int (bI x_11.1.failed)])), (aBV_types, .inl (cI, 2000, .inl (fun k9 => iI (x_11.2.types k9))))] := ⟨hP_6, hD_6⟩
      clear hP_6 hD_6
      obtain ⟨hP_6, hD_6⟩ := hQ9
      have hP_6 := hP_6.sub (ws' := [(aWa, .inr (7, [.int (iI zW1.typeCount), .ref aWa_parameterCounts, .ref aWa_parameters, .ref aWa_results, .int (iI zW3.functionCount), .ref aWa_functionTypes, .ref aWa_starts, .ref aWa_localCounts, .ref aWa_locals, .int (bI zW5.hasMemory), .long zW5.pagesAtFirst, .long zW5.pagesMost, .int (iI zW6.globalCount), .ref aWa_globalTypes, .ref aWa_globalsChange, .ref aWa_initialTypes, .ref aWa_initialValues, .ref aEx, .ref aCo])), (aWa_globalTypes, .inl (cI, 20, .inl (fun k9 => iI (zW6.globalTypes k9)))), (aWa_globalsChange, .inl (cZ, 20, .inl (fun k9 => bI (zW6.globalsChange k9)))), (aBV, .inr (5, [.ref aWa, .ref aCo, .int (iI x_11.1.function), .ref aBV_types, .int (iI x_11.2.height), .ref aBV_openers, .ref aBV_bases, .ref aBV_blockTypes, .ref aBV_labelTypes, .ref aBV_unreachable, .int (iI zBo.openCount), .int (bI x_11.1.failed)])), (aBV_types, .inl (cI, 2000, .inl (fun k9 => iI (x_11.2.types k9)))), (aBV_bases, .inl (cI, 101, .inl (fun k9 => iI (zBo.bases k9)))), (aBV_unreachable, .inl (cZ, 101, .inl (fun k9 => bI (zBo.unreachable k9))))]) [0, 1, 2, 5, 6, 3, 4] rfl
      have hD_6 := hD_6.sub (ws' := [(aWa, .inr (7, [.int (iI zW1.typeCount), .ref aWa_parameterCounts, .ref aWa_parameters, .ref aWa_results, .int (iI zW3.functionCount), .ref aWa_functionTypes, .ref aWa_starts, .ref aWa_localCounts, .ref aWa_locals, .int (bI zW5.hasMemory), .long zW5.pagesAtFirst, .long zW5.pagesMost, .int (iI zW6.globalCount), .ref aWa_globalTypes, .ref aWa_globalsChange, .ref aWa_initialTypes, .ref aWa_initialValues, .ref aEx, .ref aCo])), (aWa_globalTypes, .inl (cI, 20, .inl (fun k9 => iI (zW6.globalTypes k9)))), (aWa_globalsChange, .inl (cZ, 20, .inl (fun k9 => bI (zW6.globalsChange k9)))), (aBV, .inr (5, [.ref aWa, .ref aCo, .int (iI x_11.1.function), .ref aBV_types, .int (iI x_11.2.height), .ref aBV_openers, .ref aBV_bases, .ref aBV_blockTypes, .ref aBV_labelTypes, .ref aBV_unreachable, .int (iI zBo.openCount), .int (bI x_11.1.failed)])), (aBV_types, .inl (cI, 2000, .inl (fun k9 => iI (x_11.2.types k9)))), (aBV_bases, .inl (cI, 101, .inl (fun k9 => iI (zBo.bases k9)))), (aBV_unreachable, .inl (cZ, 101, .inl (fun k9 => bI (zBo.unreachable k9))))]) [0, 1, 2, 5, 6, 3, 4] (by decide +kernel) rfl
      exact ex_W (fun _ h => ex_mq h) (W.vret hx hb hr (fun t ht hW => ⟨⟨_, ozr hf ⟨⟨hx_11.1, hx_11.2⟩, rfl, rfl⟩, by rw [ht]; exact hP_6, hD_6⟩, hS_6.F ht⟩) hS_6.2.2 d_BV_checkGlobal_43)
  · have c_1 := (fun q9 => c_1 ((lc_lt).mpr q9))
    replace hf := ifn c_1 hf
    refine lv_aload_n hx hb d_BV_checkGlobal_13 rfl (lv_at hl 0 rfl) ?_
    refine lv_iconst (v := iI 1) hx hb d_BV_checkGlobal_14 (by decide) ?_
    refine W.eq (g2 := F0 m 15 ls [.int (bI true), .ref aBV]) (by rfl) ?_
    refine va_put (D := G) (ci := 5) (v := .int (bI true)) (ty := .boolean) (C := R_BV) (T := F_BV) (N := 12) hx hb hts i_BV t_BV t_BV_ok n_BV hown hK hP hD hS 3 rfl rfl 11 (by decide) (hts _ m_119) (fun _ h9 => h9) rfl (by decide +kernel) (bI_nar _) (bI_fit _) (Nat.le_of_ble_eq_true rfl) d_BV_checkGlobal_15 (fun H_7 locs_7 hP_7 hD_7 hS_7 => ?_)
    clear hS hD hP
    have hQ9 : (fun w9 => va_P G classes w9 H_7 ∧ va_D A w9) [(aWa, .inr (7, [.int (iI zW1.typeCount), .ref aWa_parameterCounts, .ref aWa_parameters, .ref aWa_results, .int (iI zW3.functionCount), .ref aWa_functionTypes, .ref aWa_starts, .ref aWa_localCounts, .ref aWa_locals, .int (bI zW5.hasMemory), .long zW5.pagesAtFirst, .long zW5.pagesMost, .int (iI zW6.globalCount), .ref aWa_globalTypes, .ref aWa_globalsChange, .ref aWa_initialTypes, .ref aWa_initialValues, .ref aEx, .ref aCo])), (aWa_globalTypes, .inl (cI, 20, .inl (fun k9 => iI (zW6.globalTypes k9)))), (aWa_globalsChange, .inl (cZ, 20, .inl (fun k9 => bI (zW6.globalsChange k9)))), (aBV, .inr (5, [.ref aWa, .ref aCo, .int (iI zBV.function), .ref aBV_types, .int (iI zBt.height), .ref aBV_openers, .ref aBV_bases, .ref aBV_blockTypes, .ref aBV_labelTypes, .ref aBV_unreachable, .int (iI zBo.openCount), .int (bI true)])), (aBV_types, .inl (cI, 2000, .inl (fun k9 => iI (zBt.types k9)))), (aBV_bases, .inl (cI, 101, .inl (fun k9 => iI (zBo.bases k9)))), (aBV_unreachable, .inl (cZ, 101, .inl (fun k9 => bI (zBo.unreachable k9))))] := ⟨hP_7, hD_7⟩
    clear hP_7 hD_7
    obtain ⟨hP_7, hD_7⟩ := hQ9
    exact ex_W (fun _ h => ex_mq h) (W.vret hx hb hr (fun t ht hW => ⟨⟨_, ozr hf ⟨⟨(KBV.Ok.mk hzBV.function : KBV.Ok (KBV.mk zBV.function true)), hzBt⟩, rfl, rfl⟩, by rw [ht]; exact hP_7, hD_7⟩, hS_7.F ht⟩) hS_7.2.2 d_BV_checkGlobal_18)
set_option maxHeartbeats 8000000 in
set_option maxRecDepth 100000 in
theorem k_BV_checkAccess (l : Launch) (htr : l.stackTraces = false) (G : va_G) (cB cI cJ cZ cG : ClassId) (aBV : Nat) (aWa : Nat) (aCo : Nat) (aBV_types : Nat) (aBV_openers : Nat) (aBV_bases : Nat) (aBV_blockTypes : Nat) (aBV_labelTypes : Nat) (aBV_unreachable : Nat) (zBV : KBV) (zBt : KBt) (zBo : KBo) (hzBV : KBV.Ok zBV) (hzBt : KBt.Ok zBt) (hzBo : KBo.Ok zBo) (v_op : Int) (v_alignment : Int) (hv_op : R32 v_op) (hv_alignment : R32 v_alignment) (R9 : Out Empty (KBV × KBt)) (hf : f_BV_checkAccess zBV zBt zBo v_op v_alignment = R9) (hnb : R9 ≠ .bad) (sz : Nat) : MetX l y_BV_checkAccess (wx y_BV_checkAccess b_BV_checkAccess 5 none) { frames := 1, cells := 0, slots := 0, locals := 22 } (XP G classes (xtys cB cI cJ cZ cG) xE [.ref aBV, .int (iI v_op), .int (iI v_alignment)] [(aBV, .inr (5, [.ref aWa, .ref aCo, .int (iI zBV.function), .ref aBV_types, .int (iI zBt.height), .ref aBV_openers, .ref aBV_bases, .ref aBV_blockTypes, .ref aBV_labelTypes, .ref aBV_unreachable, .int (iI zBo.openCount), .int (bI zBV.failed)])), (aBV_types, .inl (cI, 2000, .inl (fun k9 => iI (zBt.types k9)))), (aBV_bases, .inl (cI, 101, .inl (fun k9 => iI (zBo.bases k9)))), (aBV_unreachable, .inl (cZ, 101, .inl (fun k9 => bI (zBo.unreachable k9))))] sz) (XQ G classes (va_A [(aBV, .inr (5, [.ref aWa, .ref aCo, .int (iI zBV.function), .ref aBV_types, .int (iI zBt.height), .ref aBV_openers, .ref aBV_bases, .ref aBV_blockTypes, .ref aBV_labelTypes, .ref aBV_unreachable, .int (iI zBo.openCount), .int (bI zBV.failed)])), (aBV_types, .inl (cI, 2000, .inl (fun k9 => iI (zBt.types k9)))), (aBV_bases, .inl (cI, 101, .inl (fun k9 => iI (zBo.bases k9)))), (aBV_unreachable, .inl (cZ, 101, .inl (fun k9 => bI (zBo.unreachable k9))))] sz) (fun o w1 => ozp R9 (fun x9 => (KBV.Ok x9.1 ∧ KBt.Ok x9.2) ∧ o = .returned none ∧ w1 = [(aBV, .inr (5, [.ref aWa, .ref aCo, .int (iI x9.1.function), .ref aBV_types, .int (iI x9.2.height), .ref aBV_openers, .ref aBV_bases, .ref aBV_blockTypes, .ref aBV_labelTypes, .ref aBV_unreachable, .int (iI zBo.openCount), .int (bI x9.1.failed)])), (aBV_types, .inl (cI, 2000, .inl (fun k9 => iI (x9.2.types k9)))), (aBV_bases, .inl (cI, 101, .inl (fun k9 => iI (zBo.bases k9)))), (aBV_unreachable, .inl (cZ, 101, .inl (fun k9 => bI (zBo.unreachable k9))))]) (fun _ => False))) 0 0 (va_A [(aBV, .inr (5, [.ref aWa, .ref aCo, .int (iI zBV.function), .ref aBV_types, .int (iI zBt.height), .ref aBV_openers, .ref aBV_bases, .ref aBV_blockTypes, .ref aBV_labelTypes, .ref aBV_unreachable, .int (iI zBo.openCount), .int (bI zBV.failed)])), (aBV_types, .inl (cI, 2000, .inl (fun k9 => iI (zBt.types k9)))), (aBV_bases, .inl (cI, 101, .inl (fun k9 => iI (zBo.bases k9)))), (aBV_unreachable, .inl (cZ, 101, .inl (fun k9 => bI (zBo.unreachable k9))))] sz) := by
  refine ex_ofW (cc := b_BV_checkAccess) (maxL := 5) (ret := none) (by decide) rfl ?_
  intro p e s m args below meth c s₁ B hml hno hv
  obtain ⟨rfl, hsz, hP, hK, hD0, hE⟩ := hv
  have hx := B.exec
  have hb := B.bytes
  have hr := B.returns
  have hts : ∀ w ∈ lw_good, w.before _ s = true := fun w h => atoms_spec (ws := wx y_BV_checkAccess b_BV_checkAccess 5 none) B.pre w (List.mem_cons_of_mem _ h)
  have hown : s.vm.findClass R_BV = some m.cls := findClass_of_methodNamed B.named
  have hlocks := B.notSynchronized
  subst hsz
  have hNS := xx_nostat hP
  have hD := hD0.self (sz := s.heap.size)
  generalize hAe : va_A [(aBV, .inr (5, [.ref aWa, .ref aCo, .int (iI zBV.function), .ref aBV_types, .int (iI zBt.height), .ref aBV_openers, .ref aBV_bases, .ref aBV_blockTypes, .ref aBV_labelTypes, .ref aBV_unreachable, .int (iI zBo.openCount), .int (bI zBV.failed)])), (aBV_types, .inl (cI, 2000, .inl (fun k9 => iI (zBt.types k9)))), (aBV_bases, .inl (cI, 101, .inl (fun k9 => iI (zBo.bases k9)))), (aBV_unreachable, .inl (cZ, 101, .inl (fun k9 => bI (zBo.unreachable k9))))] s.heap.size = A at hD hE hNS ⊢
  have hA : ∀ q : Nat, s.heap.size ≤ q → A q := fun q h => by rw [← hAe]; exact Or.inr h
  have hS : va_S A s.heap s.heap [] := va_S.rf
  have hl := lv_entry ([.ref aBV, .int (iI v_op), .int (iI v_alignment)]) (n := 5) (Nat.le_of_ble_eq_true rfl)
  rw [lg_entry_eq]
  generalize (lg_sl ([.ref aBV, .int (iI v_op), .int (iI v_alignment)]) ++ List.replicate (5 - (lg_sl ([.ref aBV, .int (iI v_op), .int (iI v_alignment)])).length) Slot.unset).toArray = ls at hl ⊢
  have hl : lv_has ls 5 [(0, .ref aBV), (1, .int (iI v_op)), (2, .int (iI v_alignment))] := hl
  unfold f_BV_checkAccess at hf
  refine lv_iload_n hx hb d_BV_checkAccess_0 rfl (lv_at hl 1 rfl) ?_
  replace hf := obE hnb hf
  obtain ⟨x_1, e_2, hf⟩ := hf
  refine xx_callS (wc := []) (wr := [(aBV, .inr (5, [.ref aWa, .ref aCo, .int (iI zBV.function), .ref aBV_types, .int (iI zBt.height), .ref aBV_openers, .ref aBV_bases, .ref aBV_blockTypes, .ref aBV_labelTypes, .ref aBV_unreachable, .int (iI zBo.openCount), .int (bI zBV.failed)])), (aBV_types, .inl (cI, 2000, .inl (fun k9 => iI (zBt.types k9)))), (aBV_bases, .inl (cI, 101, .inl (fun k9 => iI (zBo.bases k9)))), (aBV_unreachable, .inl (cZ, 101, .inl (fun k9 => bI (zBo.unreachable k9))))]) (As := [.int (iI v_op)]) (rest := []) ⟨hx, hb, hml, hown, hts⟩ xE_st hK hE hA (k_Op_width l htr G cB cI cJ cZ cG v_op hv_op (.ret x_1) e_2 ret_nb _) (xw_S 1 hts m_866 m_867 m_20 m_868 (by decide +kernel) ⟨(Nat.le_of_ble_eq_true rfl), (Nat.le_of_ble_eq_true rfl)⟩) hP hD hS [] [0, 1, 2, 3] rfl rfl (by decide +kernel) (by decide +kernel) (by decide +kernel) rfl hl.1 rfl (Nat.le_of_ble_eq_true rfl) d_BV_checkAccess_1 ⟨(Nat.le_of_ble_eq_true rfl), (Nat.le_of_ble_eq_true rfl)⟩ (fun v9 w9 H_1 locs_1 hp hP_1 hD_1 hS_1 => ?_) (fun x9 w9 H9 l9 hp _ _ _ => absurd hp (fun q9 => by obtain ⟨-, ho, -⟩ := q9; cases ho))
  clear hS hD hP
  obtain ⟨hx_1, ho, rfl⟩ := hp
  cases ho
  have hQ9 : (fun w9 => va_P G classes w9 H_1 ∧ va_D A w9) [(aBV, .inr (5, [.ref aWa, .ref aCo, .int (iI zBV.function), .ref aBV_types, .int (iI zBt.height), .ref aBV_openers, .ref aBV_bases, .ref aBV_blockTypes, .ref aBV_labelTypes, .ref aBV_unreachable, .int (iI zBo.openCount), .int (bI zBV.failed)])), (aBV_types, .inl (cI, 2000, .inl (fun k9 => iI (zBt.types k9)))), (aBV_bases, .inl (cI, 101, .inl (fun k9 => iI (zBo.bases k9)))), (aBV_unreachable, .inl (cZ, 101, .inl (fun k9 => bI (zBo.unreachable k9))))] := ⟨hP_1, hD_1⟩
  clear hP_1 hD_1
  obtain ⟨hP_1, hD_1⟩ := hQ9
  refine lv_istore_n (lv' := [(3, .int (iI x_1)), (0, .ref aBV), (1, .int (iI v_op)), (2, .int (iI v_alignment))]) hx hb d_BV_checkAccess_4 rfl hl (by decide) rfl (fun ls hl => ?_)
  refine lv_iload_n hx hb d_BV_checkAccess_5 rfl (lv_at hl 3 rfl) ?_
  refine lv_iconst (v := iI 3) hx hb d_BV_checkAccess_6 (by decide) ?_
  refine jpE hf (fun K_4 hK_4 hf9 => ?_)
  replace hf := hf9
  clear hf9
  have hJK_4 : ∀ (y_3 : KBV), KBV.Ok y_3 → K_4 y_3 = R9 → ∀ (H_1 : Heap) (locs_1 : List Loc), (fun w9 => va_P G classes w9 H_1 → va_D A w9 → va_S A s.heap H_1 locs_1 → ∀ (ls : Array Slot), lv_has ls 5 [(0, .ref aBV), (1, .int (iI v_op)), (2, .int (iI v_alignment)), (3, .int (iI x_1))] → W p l e (headSpec (wx y_BV_checkAccess b_BV_checkAccess 5 none) { frames := 1, cells := 0, slots := 0, locals := 22 }).room s m ([.ref aBV, .int (iI v_op), .int (iI v_alignment)] : List Value).toArray below meth c H_1 locs_1 0 0 (MX below (XQ G classes A (fun o w1 => ozp R9 (fun x9 => (KBV.Ok x9.1 ∧ KBt.Ok x9.2) ∧ o = .returned none ∧ w1 = [(aBV, .inr (5, [.ref aWa, .ref aCo, .int (iI x9.1.function), .ref aBV_types, .int (iI x9.2.height), .ref aBV_openers, .ref aBV_bases, .ref aBV_blockTypes, .ref aBV_labelTypes, .ref aBV_unreachable, .int (iI zBo.openCount), .int (bI x9.1.failed)])), (aBV_types, .inl (cI, 2000, .inl (fun k9 => iI (x9.2.types k9)))), (aBV_bases, .inl (cI, 101, .inl (fun k9 => iI (zBo.bases k9)))), (aBV_unreachable, .inl (cZ, 101, .inl (fun k9 => bI (zBo.unreachable k9))))]) (fun _ => False))) ([.ref aBV, .int (iI v_op), .int (iI v_alignment)] : List Value).toArray s 0 0 A) (F0 m 22 ls [])) [(aBV, .inr (5, [.ref aWa, .ref aCo, .int (iI y_3.function), .ref aBV_types, .int (iI zBt.height), .ref aBV_openers, .ref aBV_bases, .ref aBV_blockTypes, .ref aBV_labelTypes, .ref aBV_unreachable, .int (iI zBo.openCount), .int (bI y_3.failed)])), (aBV_types, .inl (cI, 2000, .inl (fun k9 => iI (zBt.types k9)))), (aBV_bases, .inl (cI, 101, .inl (fun k9 => iI (zBo.bases k9)))), (aBV_unreachable, .inl (cZ, 101, .inl (fun k9 => bI (zBo.unreachable k9))))] := by
    intro y_3 hy_3 hf H_24 locs_24 hP_24 hD_24 hS_24 ls hl
    clear hS_1 hD_1 hP_1
    replace hf := (congrFun hK_4 y_3).symm.trans hf
    clear hK_4
    refine lv_iload_n hx hb d_BV_checkAccess_22 rfl (lv_at hl 3 rfl) ?_
    refine lv_bipush (v := iI 8) hx hb d_BV_checkAccess_23 (by decide) ?_
    refine jpE hf (fun K_6 hK_6 hf9 => ?_)
    replace hf := hf9
    clear hf9
    have hJK_6 : ∀ (y_5 : Int), R32 y_5 → K_6 y_5 = R9 → ∀ (H_24 : Heap) (locs_24 : List Loc), (fun w9 => va_P G classes w9 H_24 → va_D A w9 → va_S A s.heap H_24 locs_24 → ∀ (ls : Array Slot), lv_has ls 5 [(0, .ref aBV), (1, .int (iI v_op)), (2, .int (iI v_alignment)), (3, .int (iI x_1))] → W p l e (headSpec (wx y_BV_checkAccess b_BV_checkAccess 5 none) { frames := 1, cells := 0, slots := 0, locals := 22 }).room s m ([.ref aBV, .int (iI v_op), .int (iI v_alignment)] : List Value).toArray below meth c H_24 locs_24 0 0 (MX below (XQ G classes A (fun o w1 => ozp R9 (fun x9 => (KBV.Ok x9.1 ∧ KBt.Ok x9.2) ∧ o = .returned none ∧ w1 = [(aBV, .inr (5, [.ref aWa, .ref aCo, .int (iI x9.1.function), .ref aBV_types, .int (iI x9.2.height), .ref aBV_openers, .ref aBV_bases, .ref aBV_blockTypes, .ref aBV_labelTypes, .ref aBV_unreachable, .int (iI zBo.openCount), .int (bI x9.1.failed)])), (aBV_types, .inl (cI, 2000, .inl (fun k9 => iI (x9.2.types k9)))), (aBV_bases, .inl (cI, 101, .inl (fun k9 => iI (zBo.bases k9)))), (aBV_unreachable, .inl (cZ, 101, .inl (fun k9 => bI (zBo.unreachable k9))))]) (fun _ => False))) ([.ref aBV, .int (iI v_op), .int (iI v_alignment)] : List Value).toArray s 0 0 A) (F0 m 35 ls [.int (iI y_5)])) [(aBV, .inr (5, [.ref aWa, .ref aCo, .int (iI y_3.function), .ref aBV_types, .int (iI zBt.height), .ref aBV_openers, .ref aBV_bases, .ref aBV_blockTypes, .ref aBV_labelTypes, .ref aBV_unreachable, .int (iI zBo.openCount), .int (bI y_3.failed)])), (aBV_types, .inl (cI, 2000, .inl (fun k9 => iI (zBt.types k9)))), (aBV_bases, .inl (cI, 101, .inl (fun k9 => iI (zBo.bases k9)))), (aBV_unreachable, .inl (cZ, 101, .inl (fun k9 => bI (zBo.unreachable k9))))] := by
      intro y_5 hy_5 hf H_35 locs_35 hP_35 hD_35 hS_35 ls hl
      clear hS_24 hD_24 hP_24
      replace hf := (congrFun hK_6 y_5).symm.trans hf
      clear hK_6
      refine lv_istore (lv' := [(4, .int (iI y_5)), (0, .ref aBV), (1, .int (iI v_op)), (2, .int (iI v_alignment)), (3, .int (iI x_1))]) hx hb d_BV_checkAccess_35 hl (by decide) rfl (fun ls hl => ?_)
      refine lv_iload_n hx hb d_BV_checkAccess_37 rfl (lv_at hl 2 rfl) ?_
      replace hf := obE hnb hf
      obtain ⟨x_7, e_8, hf⟩ := hf
      refine xx_callS (wc := []) (wr := [(aBV, .inr (5, [.ref aWa, .ref aCo, .int (iI y_3.function), .ref aBV_types, .int (iI zBt.height), .ref aBV_openers, .ref aBV_bases, .ref aBV_blockTypes, .ref aBV_labelTypes, .ref aBV_unreachable, .int (iI zBo.openCount), .int (bI y_3.failed)])), (aBV_types, .inl (cI, 2000, .inl (fun k9 => iI (zBt.types k9)))), (aBV_bases, .inl (cI, 101, .inl (fun k9 => iI (zBo.bases k9)))), (aBV_unreachable, .inl (cZ, 101, .inl (fun k9 => bI (zBo.unreachable k9))))]) (As := [.int (iI v_op)]) (rest := []) ⟨hx, hb, hml, hown, hts⟩ xE_st hK hE hA (k_Op_isLoad l htr G cB cI cJ cZ cG v_op hv_op (.ret x_7) e_8 ret_nb _) (xw_S 1 hts m_869 m_870 m_20 m_871 (by decide +kernel) ⟨(Nat.le_of_ble_eq_true rfl), (Nat.le_of_ble_eq_true rfl)⟩) hP_35 hD_35 hS_35 [] [0, 1, 2, 3] rfl rfl (by decide +kernel) (by decide +kernel) (by decide +kernel) rfl hl.1 rfl (Nat.le_of_ble_eq_true rfl) d_BV_checkAccess_38 ⟨(Nat.le_of_ble_eq_true rfl), (Nat.le_of_ble_eq_true rfl)⟩ (fun v9 w9 H_36 locs_36 hp hP_36 hD_36 hS_36 => ?_) (fun x9 w9 H9 l9 hp _ _ _ => absurd hp (fun q9 => by obtain ⟨-, ho, -⟩ := q9; cases ho))
      clear hS_35 hD_35 hP_35
      obtain ⟨hx_7, ho, rfl⟩ := hp
      cases ho
      have hQ9 : (fun w9 => va_P G classes w9 H_36 ∧ va_D A w9) [(aBV, .inr (5, [.ref aWa, .ref aCo, .int (iI y_3.function), .ref aBV_types, .int (iI zBt.height), .ref aBV_openers, .ref aBV_bases, .ref aBV_blockTypes, .ref aBV_labelTypes, .ref aBV_unreachable, .int (iI zBo.openCount), .int (bI y_3.failed)])), (aBV_types, .inl (cI, 2000, .inl (fun k9 => iI (zBt.types k9)))), (aBV_bases, .inl (cI, 101, .inl (fun k9 => iI (zBo.bases k9)))), (aBV_unreachable, .inl (cZ, 101, .inl (fun k9 => bI (zBo.unreachable k9))))] := ⟨hP_36, hD_36⟩
      clear hP_36 hD_36
      obtain ⟨hP_36, hD_36⟩ := hQ9
      refine jpE hf (fun K_10 hK_10 hf9 => ?_)
      replace hf := hf9
      clear hf9
      have hJK_10 : ∀ (y_9 : KBV × KBt), KBV.Ok y_9.1 ∧ KBt.Ok y_9.2 → K_10 y_9 = R9 → ∀ (H_36 : Heap) (locs_36 : List Loc), (fun w9 => va_P G classes w9 H_36 → va_D A w9 → va_S A s.heap H_36 locs_36 → ∀ (ls : Array Slot), lv_has ls 5 [(0, .ref aBV), (1, .int (iI v_op)), (2, .int (iI v_alignment)), (3, .int (iI x_1)), (4, .int (iI y_5))] → W p l e (headSpec (wx y_BV_checkAccess b_BV_checkAccess 5 none) { frames := 1, cells := 0, slots := 0, locals := 22 }).room s m ([.ref aBV, .int (iI v_op), .int (iI v_alignment)] : List Value).toArray below meth c H_36 locs_36 0 0 (MX below (XQ G classes A (fun o w1 => ozp R9 (fun x9 => (KBV.Ok x9.1 ∧ KBt.Ok x9.2) ∧ o = .returned none ∧ w1 = [(aBV, .inr (5, [.ref aWa, .ref aCo, .int (iI x9.1.function), .ref aBV_types, .int (iI x9.2.height), .ref aBV_openers, .ref aBV_bases, .ref aBV_blockTypes, .ref aBV_labelTypes, .ref aBV_unreachable, .int (iI zBo.openCount), .int (bI x9.1.failed)])), (aBV_types, .inl (cI, 2000, .inl (fun k9 => iI (x9.2.types k9)))), (aBV_bases, .inl (cI, 101, .inl (fun k9 => iI (zBo.bases k9)))), (aBV_unreachable, .inl (cZ, 101, .inl (fun k9 => bI (zBo.unreachable k9))))]) (fun _ => False))) ([.ref aBV, .int (iI v_op), .int (iI v_alignment)] : List Value).toArray s 0 0 A) (F0 m 74 ls [])) [(aBV, .inr (5, [.ref aWa, .ref aCo, .int (iI y_9.1.function), .ref aBV_types, .int (iI y_9.2.height), .ref aBV_openers, .ref aBV_bases, .ref aBV_blockTypes, .ref aBV_labelTypes, .ref aBV_unreachable, .int (iI zBo.openCount), .int (bI y_9.1.failed)])), (aBV_types, .inl (cI, 2000, .inl (fun k9 => iI (y_9.2.types k9)))), (aBV_bases, .inl (cI, 101, .inl (fun k9 => iI (zBo.bases k9)))), (aBV_unreachable, .inl (cZ, 101, .inl (fun k9 => bI (zBo.unreachable k9))))] := by
        intro y_9 hy_9 hf H_41 locs_41 hP_41 hD_41 hS_41 ls hl
        clear hS_36 hD_36 hP_36
        replace hf := (congrFun hK_10 y_9).symm.trans hf
        clear hK_10
        exact ex_W (fun _ h => ex_mq h) (W.vret hx hb hr (fun t ht hW => ⟨⟨_, ozr hf ⟨⟨hy_9.1, hy_9.2⟩, rfl, rfl⟩, by rw [ht]; exact hP_41, hD_41⟩, hS_41.F ht⟩) hS_41.2.2 d_BV_checkAccess_74)
      clear hK_10
      refine lv_if_eq (tgt := 60) hx hb d_BV_checkAccess_41 (by decide) (fun c_11 => ?_) (fun c_11 => ?_)
      · have c_11 := (zb_f c_11)
        replace hf := ifn c_11 hf
        refine lv_aload_n hx hb d_BV_checkAccess_60 rfl (lv_at hl 1 rfl) ?_
        refine lv_iload hx hb d_BV_checkAccess_61 (lv_at hl 0 rfl) ?_
        replace hf := obE hnb hf
        obtain ⟨x_12, e_13, hf⟩ := hf
        refine xx_callV (wc := [(aBV, .inr (5, [.ref aWa, .ref aCo, .int (iI y_3.function), .ref aBV_types, .int (iI zBt.height), .ref aBV_openers, .ref aBV_bases, .ref aBV_blockTypes, .ref aBV_labelTypes, .ref aBV_unreachable, .int (iI zBo.openCount), .int (bI y_3.failed)])), (aBV_types, .inl (cI, 2000, .inl (fun k9 => iI (zBt.types k9)))), (aBV_bases, .inl (cI, 101, .inl (fun k9 => iI (zBo.bases k9)))), (aBV_unreachable, .inl (cZ, 101, .inl (fun k9 => bI (zBo.unreachable k9))))]) (wr := []) (As := [.int (iI y_5)]) (rest := []) ⟨hx, hb, hml, hown, hts⟩ xE_st hK hE hA (k_BV_pop l htr G cB cI cJ cZ cG aBV aWa aCo aBV_types aBV_openers aBV_bases aBV_blockTypes aBV_labelTypes aBV_unreachable y_3 zBt zBo hy_3 hzBt hzBo y_5 hy_5 (.ret x_12) e_13 ret_nb _) (xw_V 1 hts m_804 m_806 ms_BV_pop m_6 m_807 (by decide +kernel) ⟨(Nat.le_of_ble_eq_true rfl), (Nat.le_of_ble_eq_true rfl)⟩) hP_36 hD_36 hS_36 [0, 1, 2, 3] [] rfl rfl (by decide +kernel) (by decide +kernel) (by decide +kernel) 0 5 rfl rfl rfl rfl hl.1 rfl (Nat.le_of_ble_eq_true rfl) d_BV_checkAccess_63 ⟨(Nat.le_of_ble_eq_true rfl), (Nat.le_of_ble_eq_true rfl)⟩ (fun v9 w9 H_42 locs_42 hp hP_42 hD_42 hS_42 => ?_) (fun x9 w9 H9 l9 hp _ _ _ => absurd hp (fun q9 => by obtain ⟨-, ho, -⟩ := q9; cases ho))
        clear hS_36 hD_36 hP_36
        obtain ⟨hx_12, ho, rfl⟩ := hp
        cases ho
        have hQ9 : (fun w9 => va_P G classes w9 H_42 ∧ va_D A w9) [(aBV, .inr (5, [.ref aWa, .ref aCo, .int (iI x_12.1.function), .ref aBV_types, .int (iI x_12.2.1.height), .ref aBV_openers, .ref aBV_bases, .ref aBV_blockTypes, .ref aBV_labelTypes, .ref aBV_unreachable, .int (iI zBo.openCount), .int (bI x_12.1.failed)])), (aBV_types, .inl (cI, 2000, .inl (fun k9 => iI (x_12.2.1.types k9)))), (aBV_bases, .inl (cI, 101, .inl (fun k9 => iI (zBo.bases k9)))), (aBV_unreachable, .inl (cZ, 101, .inl (fun k9 => bI (zBo.unreachable k9))))] := ⟨hP_42, hD_42⟩
        clear hP_42 hD_42
        obtain ⟨hP_42, hD_42⟩ := hQ9
        refine lv_pop hx hb d_BV_checkAccess_66 rfl ?_
        refine lv_aload_n hx hb d_BV_checkAccess_67 rfl (lv_at hl 1 rfl) ?_
        refine lv_bipush (v := iI 127) hx hb d_BV_checkAccess_68 (by decide) ?_
        replace hf := obE hnb hf
        obtain ⟨x_14, e_15, hf⟩ := hf
        refine xx_callV (wc := [(aBV, .inr (5, [.ref aWa, .ref aCo, .int (iI x_12.1.function), .ref aBV_types, .int (iI x_12.2.1.height), .ref aBV_openers, .ref aBV_bases, .ref aBV_blockTypes, .ref aBV_labelTypes, .ref aBV_unreachable, .int (iI zBo.openCount), .int (bI x_12.1.failed)])), (aBV_types, .inl (cI, 2000, .inl (fun k9 => iI (x_12.2.1.types k9)))), (aBV_bases, .inl (cI, 101, .inl (fun k9 => iI (zBo.bases k9)))), (aBV_unreachable, .inl (cZ, 101, .inl (fun k9 => bI (zBo.unreachable k9))))]) (wr := []) (As := [.int (iI 127)]) (rest := []) ⟨hx, hb, hml, hown, hts⟩ xE_st hK hE hA (k_BV_pop l htr G cB cI cJ cZ cG aBV aWa aCo aBV_types aBV_openers aBV_bases aBV_blockTypes aBV_labelTypes aBV_unreachable x_12.1 x_12.2.1 zBo hx_12.1 hx_12.2.1 hzBo 127 (show R32 (127) by decide) (.ret x_14) e_15 ret_nb _) (xw_V 1 hts m_804 m_806 ms_BV_pop m_6 m_807 (by decide +kernel) ⟨(Nat.le_of_ble_eq_true rfl), (Nat.le_of_ble_eq_true rfl)⟩) hP_42 hD_42 hS_42 [0, 1, 2, 3] [] rfl rfl (by decide +kernel) (by decide +kernel) (by decide +kernel) 0 5 rfl rfl rfl rfl hl.1 rfl (Nat.le_of_ble_eq_true rfl) d_BV_checkAccess_70 ⟨(Nat.le_of_ble_eq_true rfl), (Nat.le_of_ble_eq_true rfl)⟩ (fun v9 w9 H_43 locs_43 hp hP_43 hD_43 hS_43 => ?_) (fun x9 w9 H9 l9 hp _ _ _ => absurd hp (fun q9 => by obtain ⟨-, ho, -⟩ := q9; cases ho))
        clear hS_42 hD_42 hP_42
        obtain ⟨hx_14, ho, rfl⟩ := hp
        cases ho
        have hQ9 : (fun w9 => va_P G classes w9 H_43 ∧ va_D A w9) [(aBV, .inr (5, [.ref aWa, .ref aCo, .int (iI x_14.1.function), .ref aBV_types, .int (iI x_14.2.1.height), .ref aBV_openers, .ref aBV_bases, .ref aBV_blockTypes, .ref aBV_labelTypes, .ref aBV_unreachable, .int (iI zBo.openCount), .int (bI x_14.1.failed)])), (aBV_types, .inl (cI, 2000, .inl (fun k9 => iI (x_14.2.1.types k9)))), (aBV_bases, .inl (cI, 101, .inl (fun k9 => iI (zBo.bases k9)))), (aBV_unreachable, .inl (cZ, 101, .inl (fun k9 => bI (zBo.unreachable k9))))] := ⟨hP_43, hD_43⟩
        clear hP_43 hD_43
        obtain ⟨hP_43, hD_43⟩ := hQ9
        refine lv_pop hx hb d_BV_checkAccess_73 rfl ?_
        exact hJK_10 (x_14.1, x_14.2.1) ⟨hx_14.1, hx_14.2.1⟩ hf _ _ hP_43 hD_43 hS_43 _ (lv_sub hl [1, 2, 3, 4, 0] rfl)
      · have c_11 := (zb_t c_11)
        replace hf := ifp c_11 hf
        refine lv_aload_n hx hb d_BV_checkAccess_44 rfl (lv_at hl 1 rfl) ?_
        refine lv_bipush (v := iI 127) hx hb d_BV_checkAccess_45 (by decide) ?_
        replace hf := obE hnb hf
        obtain ⟨x_16, e_17, hf⟩ := hf
        refine xx_callV (wc := [(aBV, .inr (5, [.ref aWa, .ref aCo, .int (iI y_3.function), .ref aBV_types, .int (iI zBt.height), .ref aBV_openers, .ref aBV_bases, .ref aBV_blockTypes, .ref aBV_labelTypes, .ref aBV_unreachable, .int (iI zBo.openCount), .int (bI y_3.failed)])), (aBV_types, .inl (cI, 2000, .inl (fun k9 => iI (zBt.types k9)))), (aBV_bases, .inl (cI, 101, .inl (fun k9 => iI (zBo.bases k9)))), (aBV_unreachable, .inl (cZ, 101, .inl (fun k9 => bI (zBo.unreachable k9))))]) (wr := []) (As := [.int (iI 127)]) (rest := []) ⟨hx, hb, hml, hown, hts⟩ xE_st hK hE hA (k_BV_pop l htr G cB cI cJ cZ cG aBV aWa aCo aBV_types aBV_openers aBV_bases aBV_blockTypes aBV_labelTypes aBV_unreachable y_3 zBt zBo hy_3 hzBt hzBo 127 (show R32 (127) by decide) (.ret x_16) e_17 ret_nb _) (xw_V 1 hts m_804 m_806 ms_BV_pop m_6 m_807 (by decide +kernel) ⟨(Nat.le_of_ble_eq_true rfl), (Nat.le_of_ble_eq_true rfl)⟩) hP_36 hD_36 hS_36 [0, 1, 2, 3] [] rfl rfl (by decide +kernel) (by decide +kernel) (by decide +kernel) 0 5 rfl rfl rfl rfl hl.1 rfl (Nat.le_of_ble_eq_true rfl) d_BV_checkAccess_47 ⟨(Nat.le_of_ble_eq_true rfl), (Nat.le_of_ble_eq_true rfl)⟩ (fun v9 w9 H_44 locs_44 hp hP_44 hD_44 hS_44 => ?_) (fun x9 w9 H9 l9 hp _ _ _ => absurd hp (fun q9 => by obtain ⟨-, ho, -⟩ := q9; cases ho))
        clear hS_36 hD_36 hP_36
        obtain ⟨hx_16, ho, rfl⟩ := hp
        cases ho
        have hQ9 : (fun w9 => va_P G classes w9 H_44 ∧ va_D A w9) [(aBV, .inr (5, [.ref aWa, .ref aCo, .int (iI x_16.1.function), .ref aBV_types, .int (iI x_16.2.1.height), .ref aBV_openers, .ref aBV_bases, .ref aBV_blockTypes, .ref aBV_labelTypes, .ref aBV_unreachable, .int (iI zBo.openCount), .int (bI x_16.1.failed)])), (aBV_types, .inl (cI, 2000, .inl (fun k9 => iI (x_16.2.1.types k9)))), (aBV_bases, .inl (cI, 101, .inl (fun k9 => iI (zBo.bases k9)))), (aBV_unreachable, .inl (cZ, 101, .inl (fun k9 => bI (zBo.unreachable k9))))] := ⟨hP_44, hD_44⟩
        clear hP_44 hD_44
        obtain ⟨hP_44, hD_44⟩ := hQ9
        refine lv_pop hx hb d_BV_checkAccess_50 rfl ?_
        refine lv_aload_n hx hb d_BV_checkAccess_51 rfl (lv_at hl 1 rfl) ?_
        refine lv_iload hx hb d_BV_checkAccess_52 (lv_at hl 0 rfl) ?_
        replace hf := obE hnb hf
        obtain ⟨x_18, e_19, hf⟩ := hf
        refine xx_callV (wc := [(aBV, .inr (5, [.ref aWa, .ref aCo, .int (iI x_16.1.function), .ref aBV_types, .int (iI x_16.2.1.height), .ref aBV_openers, .ref aBV_bases, .ref aBV_blockTypes, .ref aBV_labelTypes, .ref aBV_unreachable, .int (iI zBo.openCount), .int (bI x_16.1.failed)])), (aBV_types, .inl (cI, 2000, .inl (fun k9 => iI (x_16.2.1.types k9))))]) (wr := [(aBV_bases, .inl (cI, 101, .inl (fun k9 => iI (zBo.bases k9)))), (aBV_unreachable, .inl (cZ, 101, .inl (fun k9 => bI (zBo.unreachable k9))))]) (As := [.int (iI y_5)]) (rest := []) ⟨hx, hb, hml, hown, hts⟩ xE_st hK hE hA (k_BV_push l htr G cB cI cJ cZ cG aBV aWa aCo aBV_types aBV_openers aBV_bases aBV_blockTypes aBV_labelTypes aBV_unreachable x_16.1 x_16.2.1 zBo hx_16.1 hx_16.2.1 hzBo y_5 hy_5 (.ret x_18) e_19 ret_nb _) (xw_V 1 hts m_820 m_822 ms_BV_push m_6 m_823 (by decide +kernel) ⟨(Nat.le_of_ble_eq_true rfl), (Nat.le_of_ble_eq_true rfl)⟩) hP_44 hD_44 hS_44 [0, 1] [2, 3] rfl rfl (by decide +kernel) (by decide +kernel) (by decide +kernel) 0 5 rfl rfl rfl rfl hl.1 rfl (Nat.le_of_ble_eq_true rfl) d_BV_checkAccess_54 ⟨(Nat.le_of_ble_eq_true rfl), (Nat.le_of_ble_eq_true rfl)⟩ (fun v9 w9 H_45 locs_45 hp hP_45 hD_45 hS_45 => ?_) (fun x9 w9 H9 l9 hp _ _ _ => absurd hp (fun q9 => by obtain ⟨-, ho, -⟩ := q9; cases ho))
        clear hS_44 hD_44 hP_44
        obtain ⟨hx_18, ho, rfl⟩ := hp
        cases ho
        have hQ9 : (fun w9 => va_P G classes w9 H_45 ∧ va_D A w9) [(aBV_bases, .inl (cI, 101, .inl (fun k9 => iI (zBo.bases k9)))), (aBV_unreachable, .inl (cZ, 101, .inl (fun k9 => bI (zBo.unreachable k9)))), (aBV, .inr (5, [.ref aWa, .ref aCo, .int (iI x_18.1.function), .ref aBV_types, .int (iI x_18.2.height), .ref aBV_openers, .ref aBV_bases, .ref aBV_blockTypes, .ref aBV_labelTypes, .ref aBV_unreachable, .int (iI zBo.openCount), .int (bI x_18.1.failed)])), (aBV_types, .inl (cI, 2000, .inl (fun k9 => iI (x_18.2.types k9))))] := ⟨hP_45, hD_45⟩
        clear hP_45 hD_45
        obtain ⟨hP_45, hD_45⟩ := hQ9
        refine lv_goto (tgt := 74) hx hb d_BV_checkAccess_57 (by decide) ?_
        exact hJK_10 (x_18.1, x_18.2) ⟨hx_18.1, hx_18.2⟩ hf _ _ (hP_45.sub [2, 3, 0, 1] rfl) (hD_45.sub [2, 3, 0, 1] (by decide +kernel) rfl) hS_45 _ (lv_sub hl [1, 2, 3, 4, 0] rfl)
    clear hK_6
    refine lv_icmp_ne (tgt := 33) hx hb d_BV_checkAccess_25 (by decide) (fun c_20 => ?_) (fun c_20 => ?_)
    · have c_20 := (fun q9 => c_20 (((zv_eq (iI_t hx_1) (iI_t (show R32 (8) by decide)))).mpr q9))
      replace hf := ifn c_20 hf
      refine lv_bipush (v := iI 127) hx hb d_BV_checkAccess_33 (by decide) ?_
      exact hJK_6 127 (show R32 (127) by decide) hf _ _ hP_24 hD_24 hS_24 _ (lv_sub hl [0, 1, 2, 3] rfl)
    · have c_20 := ((zv_eq (iI_t hx_1) (iI_t (show R32 (8) by decide)))).mp c_20
      replace hf := ifp c_20 hf
      refine lv_bipush (v := iI 126) hx hb d_BV_checkAccess_28 (by decide) ?_
      refine lv_goto (tgt := 35) hx hb d_BV_checkAccess_30 (by decide) ?_
      exact hJK_6 126 (show R32 (126) by decide) hf _ _ hP_24 hD_24 hS_24 _ (lv_sub hl [0, 1, 2, 3] rfl)
  clear hK_4
  refine jpE hf (fun K_22 hK_22 hf9 => ?_)
  replace hf := hf9
  clear hf9
  have hJK_22 : ∀ (y_21 : Unit), True → K_22 y_21 = R9 → ∀ (H_1 : Heap) (locs_1 : List Loc), (fun w9 => va_P G classes w9 H_1 → va_D A w9 → va_S A s.heap H_1 locs_1 → ∀ (ls : Array Slot), lv_has ls 5 [(0, .ref aBV), (1, .int (iI v_op)), (2, .int (iI v_alignment)), (3, .int (iI x_1))] → W p l e (headSpec (wx y_BV_checkAccess b_BV_checkAccess 5 none) { frames := 1, cells := 0, slots := 0, locals := 22 }).room s m ([.ref aBV, .int (iI v_op), .int (iI v_alignment)] : List Value).toArray below meth c H_1 locs_1 0 0 (MX below (XQ G classes A (fun o w1 => ozp R9 (fun x9 => (KBV.Ok x9.1 ∧ KBt.Ok x9.2) ∧ o = .returned none ∧ w1 = [(aBV, .inr (5, [.ref aWa, .ref aCo, .int (iI x9.1.function), .ref aBV_types, .int (iI x9.2.height), .ref aBV_openers, .ref aBV_bases, .ref aBV_blockTypes, .ref aBV_labelTypes, .ref aBV_unreachable, .int (iI zBo.openCount), .int (bI x9.1.failed)])), (aBV_types, .inl (cI, 2000, .inl (fun k9 => iI (x9.2.types k9)))), (aBV_bases, .inl (cI, 101, .inl (fun k9 => iI (zBo.bases k9)))), (aBV_unreachable, .inl (cZ, 101, .inl (fun k9 => bI (zBo.unreachable k9))))]) (fun _ => False))) ([.ref aBV, .int (iI v_op), .int (iI v_alignment)] : List Value).toArray s 0 0 A) (F0 m 17 ls [])) [(aBV, .inr (5, [.ref aWa, .ref aCo, .int (iI zBV.function), .ref aBV_types, .int (iI zBt.height), .ref aBV_openers, .ref aBV_bases, .ref aBV_blockTypes, .ref aBV_labelTypes, .ref aBV_unreachable, .int (iI zBo.openCount), .int (bI zBV.failed)])), (aBV_types, .inl (cI, 2000, .inl (fun k9 => iI (zBt.types k9)))), (aBV_bases, .inl (cI, 101, .inl (fun k9 => iI (zBo.bases k9)))), (aBV_unreachable, .inl (cZ, 101, .inl (fun k9 => bI (zBo.unreachable k9))))] := by
    intro y_21 hy_21 hf H_46 locs_46 hP_46 hD_46 hS_46 ls hl
    clear hS_1 hD_1 hP_1
    replace hf := (congrFun hK_22 y_21).symm.trans hf
    clear hK_22
    refine lv_aload_n hx hb d_BV_checkAccess_17 rfl (lv_at hl 0 rfl) ?_
    refine lv_iconst (v := iI 1) hx hb d_BV_checkAccess_18 (by decide) ?_
    refine W.eq (g2 := F0 m 19 ls [.int (bI true), .ref aBV]) (by rfl) ?_
    refine va_put (D := G) (ci := 5) (v := .int (bI true)) (ty := .boolean) (C := R_BV) (T := F_BV) (N := 12) hx hb hts i_BV t_BV t_BV_ok n_BV hown hK hP_46 hD_46 hS_46 0 rfl rfl 11 (by decide) (hts _ m_119) (fun _ h9 => h9) rfl (by decide +kernel) (bI_nar _) (bI_fit _) (Nat.le_of_ble_eq_true rfl) d_BV_checkAccess_19 (fun H_47 locs_47 hP_47 hD_47 hS_47 => ?_)
    clear hS_46 hD_46 hP_46
    have hQ9 : (fun w9 => va_P G classes w9 H_47 ∧ va_D A w9) [(aBV, .inr (5, [.ref aWa, .ref aCo, .int (iI zBV.function), .ref aBV_types, .int (iI zBt.height), .ref aBV_openers, .ref aBV_bases, .ref aBV_blockTypes, .ref aBV_labelTypes, .ref aBV_unreachable, .int (iI zBo.openCount), .int (bI true)])), (aBV_types, .inl (cI, 2000, .inl (fun k9 => iI (zBt.types k9)))), (aBV_bases, .inl (cI, 101, .inl (fun k9 => iI (zBo.bases k9)))), (aBV_unreachable, .inl (cZ, 101, .inl (fun k9 => bI (zBo.unreachable k9))))] := ⟨hP_47, hD_47⟩
    clear hP_47 hD_47
    obtain ⟨hP_47, hD_47⟩ := hQ9
    exact hJK_4 (KBV.mk zBV.function true) (KBV.Ok.mk hzBV.function : KBV.Ok (KBV.mk zBV.function true)) hf _ _ hP_47 hD_47 hS_47 _ (lv_sub hl [0, 1, 2, 3] rfl)
  clear hK_22
  refine lv_icmp_gt (tgt := 17) hx hb d_BV_checkAccess_7 (by decide) (fun c_23 => ?_) (fun c_23 => ?_)
  · have c_23 := ((zv_lt (iI_t (show R32 (3) by decide)) (iI_t hv_alignment))).mp c_23
    replace hf := ifp c_23 hf
    exact hJK_22 () trivial hf _ _ hP_1 hD_1 hS_1 _ (lv_sub hl [1, 2, 3, 0] rfl)
  · have c_23 := (fun q9 => c_23 (((zv_lt (iI_t (show R32 (3) by decide)) (iI_t hv_alignment))).mpr q9))
    replace hf := ifn c_23 hf
    refine lv_iconst (v := iI 1) hx hb d_BV_checkAccess_10 (by decide) ?_
    refine lv_iload_n hx hb d_BV_checkAccess_11 rfl (lv_at hl 3 rfl) ?_
    refine lv_ishl hx hb d_BV_checkAccess_12 ?_
    refine lv_iload_n hx hb d_BV_checkAccess_13 rfl (lv_at hl 0 rfl) ?_
    refine lv_icmp_le (tgt := 22) hx hb d_BV_checkAccess_14 (by decide) (fun c_24 => ?_) (fun c_24 => ?_)
    · have c_24 := ((zv_le rfl (iI_t hx_1))).mp c_24
      replace hf := ifp c_24 hf
      exact hJK_4 zBV hzBV hf _ _ hP_1 hD_1 hS_1 _ (lv_sub hl [1, 2, 3, 0] rfl)
    · have c_24 := (fun q9 => c_24 (((zv_le rfl (iI_t hx_1))).mpr q9))
      replace hf := ifn c_24 hf
      exact hJK_22 () trivial hf _ _ hP_1 hD_1 hS_1 _ (lv_sub hl [1, 2, 3, 0] rfl)
set_option maxHeartbeats 8000000 in
set_option maxRecDepth 100000 in
theorem k_BV_checkMemory (l : Launch) (htr : l.stackTraces = false) (G : va_G) (cB cI cJ cZ cG : ClassId) (aCo : Nat) (aCo_ops : Nat) (aCo_values : Nat) (aCo_extras : Nat) (aCo_ends : Nat) (aCo_elses : Nat) (aCo_heights : Nat) (aCo_targets : Nat) (aCo_labels : Nat) (aCo_labelTargets : Nat) (aWa : Nat) (aWa_parameterCounts : Nat) (aWa_parameters : Nat) (aWa_results : Nat) (aWa_functionTypes : Nat) (aWa_starts : Nat) (aWa_localCounts : Nat) (aWa_locals : Nat) (aWa_globalTypes : Nat) (aWa_globalsChange : Nat) (aWa_initialTypes : Nat) (aWa_initialValues : Nat) (aEx : Nat) (aBV : Nat) (aBV_types : Nat) (aBV_openers : Nat) (aBV_bases : Nat) (aBV_blockTypes : Nat) (aBV_labelTypes : Nat) (aBV_unreachable : Nat) (zCo : KCo) (zW1 : KW1) (zW3 : KW3) (zW5 : KW5) (zW6 : KW6) (zBV : KBV) (zBt : KBt) (zBo : KBo) (hzCo : KCo.Ok zCo) (hzW1 : KW1.Ok zW1) (hzW3 : KW3.Ok zW3) (hzW5 : KW5.Ok zW5) (hzW6 : KW6.Ok zW6) (hzBV : KBV.Ok zBV) (hzBt : KBt.Ok zBt) (hzBo : KBo.Ok zBo) (v_op : Int) (v_at : Int) (hv_op : R32 v_op) (hv_at : R32 v_at) (R9 : Out Empty (KBV × KBt)) (hf : f_BV_checkMemory zCo zW5 zBV zBt zBo v_op v_at = R9) (hnb : R9 ≠ .bad) (sz : Nat) : MetX l y_BV_checkMemory (wx y_BV_checkMemory b_BV_checkMemory 3 none) { frames := 2, cells := 0, slots := 0, locals := 46 } (XP G classes (xtys cB cI cJ cZ cG) xE [.ref aBV, .int (iI v_op), .int (iI v_at)] [(aCo, .inr (9, [.int (iI zCo.size), .ref aCo_ops, .ref aCo_values, .ref aCo_extras, .ref aCo_ends, .ref aCo_elses, .ref aCo_heights, .ref aCo_targets, .int (iI zCo.labelCount), .ref aCo_labels, .ref aCo_labelTargets])), (aCo_extras, .inl (cI, 2000, .inl (fun k9 => iI (zCo.extras k9)))), (aWa, .inr (7, [.int (iI zW1.typeCount), .ref aWa_parameterCounts, .ref aWa_parameters, .ref aWa_results, .int (iI zW3.functionCount), .ref aWa_functionTypes, .ref aWa_starts, .ref aWa_localCounts, .ref aWa_locals, .int (bI zW5.hasMemory), .long zW5.pagesAtFirst, .long zW5.pagesMost, .int (iI zW6.globalCount), .ref aWa_globalTypes, .ref aWa_globalsChange, .ref aWa_initialTypes, .ref aWa_initialValues, .ref aEx, .ref aCo])), (aBV, .inr (5, [.ref aWa, .ref aCo, .int (iI zBV.function), .ref aBV_types, .int (iI zBt.height), .ref aBV_openers, .ref aBV_bases, .ref aBV_blockTypes, .ref aBV_labelTypes, .ref aBV_unreachable, .int (iI zBo.openCount), .int (bI zBV.failed)])), (aBV_types, .inl (cI, 2000, .inl (fun k9 => iI (zBt.types k9)))), (aBV_bases, .inl (cI, 101, .inl (fun k9 => iI (zBo.bases k9)))), (aBV_unreachable, .inl (cZ, 101, .inl (fun k9 => bI (zBo.unreachable k9))))] sz) (XQ G classes (va_A [(aCo, .inr (9, [.int (iI zCo.size), .ref aCo_ops, .ref aCo_values, .ref aCo_extras, .ref aCo_ends, .ref aCo_elses, .ref aCo_heights, .ref aCo_targets, .int (iI zCo.labelCount), .ref aCo_labels, .ref aCo_labelTargets])), (aCo_extras, .inl (cI, 2000, .inl (fun k9 => iI (zCo.extras k9)))), (aWa, .inr (7, [.int (iI zW1.typeCount), .ref aWa_parameterCounts, .ref aWa_parameters, .ref aWa_results, .int (iI zW3.functionCount), .ref aWa_functionTypes, .ref aWa_starts, .ref aWa_localCounts, .ref aWa_locals, .int (bI zW5.hasMemory), .long zW5.pagesAtFirst, .long zW5.pagesMost, .int (iI zW6.globalCount), .ref aWa_globalTypes, .ref aWa_globalsChange, .ref aWa_initialTypes, .ref aWa_initialValues, .ref aEx, .ref aCo])), (aBV, .inr (5, [.ref aWa, .ref aCo, .int (iI zBV.function), .ref aBV_types, .int (iI zBt.height), .ref aBV_openers, .ref aBV_bases, .ref aBV_blockTypes, .ref aBV_labelTypes, .ref aBV_unreachable, .int (iI zBo.openCount), .int (bI zBV.failed)])), (aBV_types, .inl (cI, 2000, .inl (fun k9 => iI (zBt.types k9)))), (aBV_bases, .inl (cI, 101, .inl (fun k9 => iI (zBo.bases k9)))), (aBV_unreachable, .inl (cZ, 101, .inl (fun k9 => bI (zBo.unreachable k9))))] sz) (fun o w1 => ozp R9 (fun x9 => (KBV.Ok x9.1 ∧ KBt.Ok x9.2) ∧ o = .returned none ∧ w1 = [(aCo, .inr (9, [.int (iI zCo.size), .ref aCo_ops, .ref aCo_values, .ref aCo_extras, .ref aCo_ends, .ref aCo_elses, .ref aCo_heights, .ref aCo_targets, .int (iI zCo.labelCount), .ref aCo_labels, .ref aCo_labelTargets])), (aCo_extras, .inl (cI, 2000, .inl (fun k9 => iI (zCo.extras k9)))), (aWa, .inr (7, [.int (iI zW1.typeCount), .ref aWa_parameterCounts, .ref aWa_parameters, .ref aWa_results, .int (iI zW3.functionCount), .ref aWa_functionTypes, .ref aWa_starts, .ref aWa_localCounts, .ref aWa_locals, .int (bI zW5.hasMemory), .long zW5.pagesAtFirst, .long zW5.pagesMost, .int (iI zW6.globalCount), .ref aWa_globalTypes, .ref aWa_globalsChange, .ref aWa_initialTypes, .ref aWa_initialValues, .ref aEx, .ref aCo])), (aBV, .inr (5, [.ref aWa, .ref aCo, .int (iI x9.1.function), .ref aBV_types, .int (iI x9.2.height), .ref aBV_openers, .ref aBV_bases, .ref aBV_blockTypes, .ref aBV_labelTypes, .ref aBV_unreachable, .int (iI zBo.openCount), .int (bI x9.1.failed)])), (aBV_types, .inl (cI, 2000, .inl (fun k9 => iI (x9.2.types k9)))), (aBV_bases, .inl (cI, 101, .inl (fun k9 => iI (zBo.bases k9)))), (aBV_unreachable, .inl (cZ, 101, .inl (fun k9 => bI (zBo.unreachable k9))))]) (fun _ => False))) 0 0 (va_A [(aCo, .inr (9, [.int (iI zCo.size), .ref aCo_ops, .ref aCo_values, .ref aCo_extras, .ref aCo_ends, .ref aCo_elses, .ref aCo_heights, .ref aCo_targets, .int (iI zCo.labelCount), .ref aCo_labels, .ref aCo_labelTargets])), (aCo_extras, .inl (cI, 2000, .inl (fun k9 => iI (zCo.extras k9)))), (aWa, .inr (7, [.int (iI zW1.typeCount), .ref aWa_parameterCounts, .ref aWa_parameters, .ref aWa_results, .int (iI zW3.functionCount), .ref aWa_functionTypes, .ref aWa_starts, .ref aWa_localCounts, .ref aWa_locals, .int (bI zW5.hasMemory), .long zW5.pagesAtFirst, .long zW5.pagesMost, .int (iI zW6.globalCount), .ref aWa_globalTypes, .ref aWa_globalsChange, .ref aWa_initialTypes, .ref aWa_initialValues, .ref aEx, .ref aCo])), (aBV, .inr (5, [.ref aWa, .ref aCo, .int (iI zBV.function), .ref aBV_types, .int (iI zBt.height), .ref aBV_openers, .ref aBV_bases, .ref aBV_blockTypes, .ref aBV_labelTypes, .ref aBV_unreachable, .int (iI zBo.openCount), .int (bI zBV.failed)])), (aBV_types, .inl (cI, 2000, .inl (fun k9 => iI (zBt.types k9)))), (aBV_bases, .inl (cI, 101, .inl (fun k9 => iI (zBo.bases k9)))), (aBV_unreachable, .inl (cZ, 101, .inl (fun k9 => bI (zBo.unreachable k9))))] sz) := by
  refine ex_ofW (cc := b_BV_checkMemory) (maxL := 3) (ret := none) (by decide) rfl ?_
  intro p e s m args below meth c s₁ B hml hno hv
  obtain ⟨rfl, hsz, hP, hK, hD0, hE⟩ := hv
  have hx := B.exec
  have hb := B.bytes
  have hr := B.returns
  have hts : ∀ w ∈ lw_good, w.before _ s = true := fun w h => atoms_spec (ws := wx y_BV_checkMemory b_BV_checkMemory 3 none) B.pre w (List.mem_cons_of_mem _ h)
  have hown : s.vm.findClass R_BV = some m.cls := findClass_of_methodNamed B.named
  have hlocks := B.notSynchronized
  subst hsz
  have hNS := xx_nostat hP
  have hD := hD0.self (sz := s.heap.size)
  generalize hAe : va_A [(aCo, .inr (9, [.int (iI zCo.size), .ref aCo_ops, .ref aCo_values, .ref aCo_extras, .ref aCo_ends, .ref aCo_elses, .ref aCo_heights, .ref aCo_targets, .int (iI zCo.labelCount), .ref aCo_labels, .ref aCo_labelTargets])), (aCo_extras, .inl (cI, 2000, .inl (fun k9 => iI (zCo.extras k9)))), (aWa, .inr (7, [.int (iI zW1.typeCount), .ref aWa_parameterCounts, .ref aWa_parameters, .ref aWa_results, .int (iI zW3.functionCount), .ref aWa_functionTypes, .ref aWa_starts, .ref aWa_localCounts, .ref aWa_locals, .int (bI zW5.hasMemory), .long zW5.pagesAtFirst, .long zW5.pagesMost, .int (iI zW6.globalCount), .ref aWa_globalTypes, .ref aWa_globalsChange, .ref aWa_initialTypes, .ref aWa_initialValues, .ref aEx, .ref aCo])), (aBV, .inr (5, [.ref aWa, .ref aCo, .int (iI zBV.function), .ref aBV_types, .int (iI zBt.height), .ref aBV_openers, .ref aBV_bases, .ref aBV_blockTypes, .ref aBV_labelTypes, .ref aBV_unreachable, .int (iI zBo.openCount), .int (bI zBV.failed)])), (aBV_types, .inl (cI, 2000, .inl (fun k9 => iI (zBt.types k9)))), (aBV_bases, .inl (cI, 101, .inl (fun k9 => iI (zBo.bases k9)))), (aBV_unreachable, .inl (cZ, 101, .inl (fun k9 => bI (zBo.unreachable k9))))] s.heap.size = A at hD hE hNS ⊢
  have hA : ∀ q : Nat, s.heap.size ≤ q → A q := fun q h => by rw [← hAe]; exact Or.inr h
  have hS : va_S A s.heap s.heap [] := va_S.rf
  have hl := lv_entry ([.ref aBV, .int (iI v_op), .int (iI v_at)]) (n := 3) (Nat.le_of_ble_eq_true rfl)
  rw [lg_entry_eq]
  generalize (lg_sl ([.ref aBV, .int (iI v_op), .int (iI v_at)]) ++ List.replicate (3 - (lg_sl ([.ref aBV, .int (iI v_op), .int (iI v_at)])).length) Slot.unset).toArray = ls at hl ⊢
  have hl : lv_has ls 3 [(0, .ref aBV), (1, .int (iI v_op)), (2, .int (iI v_at))] := hl
  unfold f_BV_checkMemory at hf
  refine lv_aload_n hx hb d_BV_checkMemory_0 rfl (lv_at hl 0 rfl) ?_
  refine va_get (D := G) (ci := 5) (v := .ref aWa) (C := R_BV) (T := F_BV) (N := 12) hx hb hts i_BV hown hK hP 3 rfl rfl 0 (by decide) (hts _ m_108) (fun _ h9 => h9) rfl d_BV_checkMemory_1 ?_
  refine va_get (D := G) (ci := 7) (v := .int (bI zW5.hasMemory)) (C := R_Wa) (T := F_Wa) (N := 19) hx hb hts i_Wa hown hK hP 2 rfl rfl 9 (by decide) (hts _ m_343) (fun _ h9 => h9) rfl d_BV_checkMemory_4 ?_
  refine jpE hf (fun K_2 hK_2 hf9 => ?_)
  replace hf := hf9
  clear hf9
  have hJK_2 : ∀ (y_1 : KBV), KBV.Ok y_1 → K_2 y_1 = R9 → ∀ (H : Heap) (locs : List Loc), (fun w9 => va_P G classes w9 H → va_D A w9 → va_S A s.heap H locs → ∀ (ls : Array Slot), lv_has ls 3 [(0, .ref aBV), (1, .int (iI v_op)), (2, .int (iI v_at))] → W p l e (headSpec (wx y_BV_checkMemory b_BV_checkMemory 3 none) { frames := 2, cells := 0, slots := 0, locals := 46 }).room s m ([.ref aBV, .int (iI v_op), .int (iI v_at)] : List Value).toArray below meth c H locs 0 0 (MX below (XQ G classes A (fun o w1 => ozp R9 (fun x9 => (KBV.Ok x9.1 ∧ KBt.Ok x9.2) ∧ o = .returned none ∧ w1 = [(aCo, .inr (9, [.int (iI zCo.size), .ref aCo_ops, .ref aCo_values, .ref aCo_extras, .ref aCo_ends, .ref aCo_elses, .ref aCo_heights, .ref aCo_targets, .int (iI zCo.labelCount), .ref aCo_labels, .ref aCo_labelTargets])), (aCo_extras, .inl (cI, 2000, .inl (fun k9 => iI (zCo.extras k9)))), (aWa, .inr (7, [.int (iI zW1.typeCount), .ref aWa_parameterCounts, .ref aWa_parameters, .ref aWa_results, .int (iI zW3.functionCount), .ref aWa_functionTypes, .ref aWa_starts, .ref aWa_localCounts, .ref aWa_locals, .int (bI zW5.hasMemory), .long zW5.pagesAtFirst, .long zW5.pagesMost, .int (iI zW6.globalCount), .ref aWa_globalTypes, .ref aWa_globalsChange, .ref aWa_initialTypes, .ref aWa_initialValues, .ref aEx, .ref aCo])), (aBV, .inr (5, [.ref aWa, .ref aCo, .int (iI x9.1.function), .ref aBV_types, .int (iI x9.2.height), .ref aBV_openers, .ref aBV_bases, .ref aBV_blockTypes, .ref aBV_labelTypes, .ref aBV_unreachable, .int (iI zBo.openCount), .int (bI x9.1.failed)])), (aBV_types, .inl (cI, 2000, .inl (fun k9 => iI (x9.2.types k9)))), (aBV_bases, .inl (cI, 101, .inl (fun k9 => iI (zBo.bases k9)))), (aBV_unreachable, .inl (cZ, 101, .inl (fun k9 => bI (zBo.unreachable k9))))]) (fun _ => False))) ([.ref aBV, .int (iI v_op), .int (iI v_at)] : List Value).toArray s 0 0 A) (F0 m 15 ls [])) [(aCo, .inr (9, [.int (iI zCo.size), .ref aCo_ops, .ref aCo_values, .ref aCo_extras, .ref aCo_ends, .ref aCo_elses, .ref aCo_heights, .ref aCo_targets, .int (iI zCo.labelCount), .ref aCo_labels, .ref aCo_labelTargets])), (aCo_extras, .inl (cI, 2000, .inl (fun k9 => iI (zCo.extras k9)))), (aWa, .inr (7, [.int (iI zW1.typeCount), .ref aWa_parameterCounts, .ref aWa_parameters, .ref aWa_results, .int (iI zW3.functionCount), .ref aWa_functionTypes, .ref aWa_starts, .ref aWa_localCounts, .ref aWa_locals, .int (bI zW5.hasMemory), .long zW5.pagesAtFirst, .long zW5.pagesMost, .int (iI zW6.globalCount), .ref aWa_globalTypes, .ref aWa_globalsChange, .ref aWa_initialTypes, .ref aWa_initialValues, .ref aEx, .ref aCo])), (aBV, .inr (5, [.ref aWa, .ref aCo, .int (iI y_1.function), .ref aBV_types, .int (iI zBt.height), .ref aBV_openers, .ref aBV_bases, .ref aBV_blockTypes, .ref aBV_labelTypes, .ref aBV_unreachable, .int (iI zBo.openCount), .int (bI y_1.failed)])), (aBV_types, .inl (cI, 2000, .inl (fun k9 => iI (zBt.types k9)))), (aBV_bases, .inl (cI, 101, .inl (fun k9 => iI (zBo.bases k9)))), (aBV_unreachable, .inl (cZ, 101, .inl (fun k9 => bI (zBo.unreachable k9))))] := by
    intro y_1 hy_1 hf H_11 locs_11 hP_11 hD_11 hS_11 ls hl
    clear hS hD hP
    replace hf := (congrFun hK_2 y_1).symm.trans hf
    clear hK_2
    refine lv_iload_n hx hb d_BV_checkMemory_15 rfl (lv_at hl 1 rfl) ?_
    refine lv_bipush (v := iI 63) hx hb d_BV_checkMemory_16 (by decide) ?_
    refine jpE hf (fun K_4 hK_4 hf9 => ?_)
    replace hf := hf9
    clear hf9
    have hJK_4 : ∀ (y_3 : KBV × KBt), KBV.Ok y_3.1 ∧ KBt.Ok y_3.2 → K_4 y_3 = R9 → ∀ (H_11 : Heap) (locs_11 : List Loc), (fun w9 => va_P G classes w9 H_11 → va_D A w9 → va_S A s.heap H_11 locs_11 → ∀ (ls : Array Slot), lv_has ls 3 [(0, .ref aBV), (1, .int (iI v_op)), (2, .int (iI v_at))] → W p l e (headSpec (wx y_BV_checkMemory b_BV_checkMemory 3 none) { frames := 2, cells := 0, slots := 0, locals := 46 }).room s m ([.ref aBV, .int (iI v_op), .int (iI v_at)] : List Value).toArray below meth c H_11 locs_11 0 0 (MX below (XQ G classes A (fun o w1 => ozp R9 (fun x9 => (KBV.Ok x9.1 ∧ KBt.Ok x9.2) ∧ o = .returned none ∧ w1 = [(aCo, .inr (9, [.int (iI zCo.size), .ref aCo_ops, .ref aCo_values, .ref aCo_extras, .ref aCo_ends, .ref aCo_elses, .ref aCo_heights, .ref aCo_targets, .int (iI zCo.labelCount), .ref aCo_labels, .ref aCo_labelTargets])), (aCo_extras, .inl (cI, 2000, .inl (fun k9 => iI (zCo.extras k9)))), (aWa, .inr (7, [.int (iI zW1.typeCount), .ref aWa_parameterCounts, .ref aWa_parameters, .ref aWa_results, .int (iI zW3.functionCount), .ref aWa_functionTypes, .ref aWa_starts, .ref aWa_localCounts, .ref aWa_locals, .int (bI zW5.hasMemory), .long zW5.pagesAtFirst, .long zW5.pagesMost, .int (iI zW6.globalCount), .ref aWa_globalTypes, .ref aWa_globalsChange, .ref aWa_initialTypes, .ref aWa_initialValues, .ref aEx, .ref aCo])), (aBV, .inr (5, [.ref aWa, .ref aCo, .int (iI x9.1.function), .ref aBV_types, .int (iI x9.2.height), .ref aBV_openers, .ref aBV_bases, .ref aBV_blockTypes, .ref aBV_labelTypes, .ref aBV_unreachable, .int (iI zBo.openCount), .int (bI x9.1.failed)])), (aBV_types, .inl (cI, 2000, .inl (fun k9 => iI (x9.2.types k9)))), (aBV_bases, .inl (cI, 101, .inl (fun k9 => iI (zBo.bases k9)))), (aBV_unreachable, .inl (cZ, 101, .inl (fun k9 => bI (zBo.unreachable k9))))]) (fun _ => False))) ([.ref aBV, .int (iI v_op), .int (iI v_at)] : List Value).toArray s 0 0 A) (F0 m 66 ls [])) [(aCo, .inr (9, [.int (iI zCo.size), .ref aCo_ops, .ref aCo_values, .ref aCo_extras, .ref aCo_ends, .ref aCo_elses, .ref aCo_heights, .ref aCo_targets, .int (iI zCo.labelCount), .ref aCo_labels, .ref aCo_labelTargets])), (aCo_extras, .inl (cI, 2000, .inl (fun k9 => iI (zCo.extras k9)))), (aWa, .inr (7, [.int (iI zW1.typeCount), .ref aWa_parameterCounts, .ref aWa_parameters, .ref aWa_results, .int (iI zW3.functionCount), .ref aWa_functionTypes, .ref aWa_starts, .ref aWa_localCounts, .ref aWa_locals, .int (bI zW5.hasMemory), .long zW5.pagesAtFirst, .long zW5.pagesMost, .int (iI zW6.globalCount), .ref aWa_globalTypes, .ref aWa_globalsChange, .ref aWa_initialTypes, .ref aWa_initialValues, .ref aEx, .ref aCo])), (aBV, .inr (5, [.ref aWa, .ref aCo, .int (iI y_3.1.function), .ref aBV_types, .int (iI y_3.2.height), .ref aBV_openers, .ref aBV_bases, .ref aBV_blockTypes, .ref aBV_labelTypes, .ref aBV_unreachable, .int (iI zBo.openCount), .int (bI y_3.1.failed)])), (aBV_types, .inl (cI, 2000, .inl (fun k9 => iI (y_3.2.types k9)))), (aBV_bases, .inl (cI, 101, .inl (fun k9 => iI (zBo.bases k9)))), (aBV_unreachable, .inl (cZ, 101, .inl (fun k9 => bI (zBo.unreachable k9))))] := by
      intro y_3 hy_3 hf H_16 locs_16 hP_16 hD_16 hS_16 ls hl
      clear hS_11 hD_11 hP_11
      replace hf := (congrFun hK_4 y_3).symm.trans hf
      clear hK_4
      exact ex_W (fun _ h => ex_mq h) (W.vret hx hb hr (fun t ht hW => ⟨⟨_, ozr hf ⟨⟨hy_3.1, hy_3.2⟩, rfl, rfl⟩, by rw [ht]; exact hP_16, hD_16⟩, hS_16.F ht⟩) hS_16.2.2 d_BV_checkMemory_66)
    clear hK_4
    refine lv_icmp_ne (tgt := 30) hx hb d_BV_checkMemory_18 (by decide) (fun c_5 => ?_) (fun c_5 => ?_)
    · have c_5 := (fun q9 => c_5 (((zv_eq (iI_t hv_op) (iI_t (show R32 (63) by decide)))).mpr q9))
      replace hf := ifn c_5 hf
      refine lv_iload_n hx hb d_BV_checkMemory_30 rfl (lv_at hl 1 rfl) ?_
      refine lv_bipush (v := iI 64) hx hb d_BV_checkMemory_31 (by decide) ?_
      refine lv_icmp_ne (tgt := 52) hx hb d_BV_checkMemory_33 (by decide) (fun c_6 => ?_) (fun c_6 => ?_)
      · have c_6 := (fun q9 => c_6 (((zv_eq (iI_t hv_op) (iI_t (show R32 (64) by decide)))).mpr q9))
        replace hf := ifn c_6 hf
        refine lv_aload_n hx hb d_BV_checkMemory_52 rfl (lv_at hl 0 rfl) ?_
        refine lv_iload_n hx hb d_BV_checkMemory_53 rfl (lv_at hl 1 rfl) ?_
        refine lv_aload_n hx hb d_BV_checkMemory_54 rfl (lv_at hl 0 rfl) ?_
        refine va_get (D := G) (ci := 5) (v := .ref aCo) (C := R_BV) (T := F_BV) (N := 12) hx hb hts i_BV hown hK hP_11 3 rfl rfl 1 (by decide) (hts _ m_109) (fun _ h9 => h9) rfl d_BV_checkMemory_55 ?_
        refine va_get (D := G) (ci := 9) (v := .ref aCo_extras) (C := R_Co) (T := F_Co) (N := 11) hx hb hts i_Co hown hK hP_11 0 rfl rfl 3 (by decide) (hts _ m_268) (fun _ h9 => h9) rfl d_BV_checkMemory_58 ?_
        refine lv_iload_n hx hb d_BV_checkMemory_61 rfl (lv_at hl 2 rfl) ?_
        replace hf := grd hnb hf
        obtain ⟨g_7, hf⟩ := hf
        refine va_iald hx hb hK hP_11 1 1 rfl rfl (vp_in_iI hv_at g_7) d_BV_checkMemory_62 ?_
        refine W.eq (g2 := F0 m 63 ls [.int (iI (zCo.extras v_at.toNat)), .int (iI v_op), .ref aBV]) (by rw [iI_clamp hv_at] <;> rfl) ?_
        replace hf := obE hnb hf
        obtain ⟨x_8, e_9, hf⟩ := hf
        refine xx_callV (wc := [(aBV, .inr (5, [.ref aWa, .ref aCo, .int (iI y_1.function), .ref aBV_types, .int (iI zBt.height), .ref aBV_openers, .ref aBV_bases, .ref aBV_blockTypes, .ref aBV_labelTypes, .ref aBV_unreachable, .int (iI zBo.openCount), .int (bI y_1.failed)])), (aBV_types, .inl (cI, 2000, .inl (fun k9 => iI (zBt.types k9)))), (aBV_bases, .inl (cI, 101, .inl (fun k9 => iI (zBo.bases k9)))), (aBV_unreachable, .inl (cZ, 101, .inl (fun k9 => bI (zBo.unreachable k9))))]) (wr := [(aCo, .inr (9, [.int (iI zCo.size), .ref aCo_ops, .ref aCo_values, .ref aCo_extras, .ref aCo_ends, .ref aCo_elses, .ref aCo_heights, .ref aCo_targets, .int (iI zCo.labelCount), .ref aCo_labels, .ref aCo_labelTargets])), (aCo_extras, .inl (cI, 2000, .inl (fun k9 => iI (zCo.extras k9)))), (aWa, .inr (7, [.int (iI zW1.typeCount), .ref aWa_parameterCounts, .ref aWa_parameters, .ref aWa_results, .int (iI zW3.functionCount), .ref aWa_functionTypes, .ref aWa_starts, .ref aWa_localCounts, .ref aWa_locals, .int (bI zW5.hasMemory), .long zW5.pagesAtFirst, .long zW5.pagesMost, .int (iI zW6.globalCount), .ref aWa_globalTypes, .ref aWa_globalsChange, .ref aWa_initialTypes, .ref aWa_initialValues, .ref aEx, .ref aCo]))]) (As := [.int (iI v_op), .int (iI (zCo.extras v_at.toNat))]) (rest := []) ⟨hx, hb, hml, hown, hts⟩ xE_st hK hE hA (k_BV_checkAccess l htr G cB cI cJ cZ cG aBV aWa aCo aBV_types aBV_openers aBV_bases aBV_blockTypes aBV_labelTypes aBV_unreachable y_1 zBt zBo hy_1 hzBt hzBo v_op (zCo.extras v_at.toNat) hv_op (hzCo.extras _) (.ret x_8) e_9 ret_nb _) (xw_V 2 hts m_862 m_864 ms_BV_checkAccess m_6 m_865 (by decide +kernel) ⟨(Nat.le_of_ble_eq_true rfl), (Nat.le_of_ble_eq_true rfl)⟩) hP_11 hD_11 hS_11 [3, 4, 5, 6] [0, 1, 2] rfl rfl (by decide +kernel) (by decide +kernel) (by decide +kernel) 0 5 rfl rfl rfl rfl hl.1 rfl (Nat.le_of_ble_eq_true rfl) d_BV_checkMemory_63 ⟨(Nat.le_of_ble_eq_true rfl), (Nat.le_of_ble_eq_true rfl)⟩ (fun v9 w9 H_17 locs_17 hp hP_17 hD_17 hS_17 => ?_) (fun x9 w9 H9 l9 hp _ _ _ => absurd hp (fun q9 => by obtain ⟨-, ho, -⟩ := q9; cases ho))
        clear hS_11 hD_11 hP_11
        obtain ⟨hx_8, ho, rfl⟩ := hp
        cases ho
        have hQ9 : (fun w9 => va_P G classes w9 H_17 ∧ va_D A w9) [(aCo, .inr (9, [.int (iI zCo.size), .ref aCo_ops, .ref aCo_values, .ref aCo_extras, .ref aCo_ends, .ref aCo_elses, .ref aCo_heights, .ref aCo_targets, .int (iI zCo.labelCount), .ref aCo_labels, .ref aCo_labelTargets])), (aCo_extras, .inl (cI, 2000, .inl (fun k9 => iI (zCo.extras k9)))), (aWa, .inr (7, [.int (iI zW1.typeCount), .ref aWa_parameterCounts, .ref aWa_parameters, .ref aWa_results, .int (iI zW3.functionCount), .ref aWa_functionTypes, .ref aWa_starts, .ref aWa_localCounts, .ref aWa_locals, .int (bI zW5.hasMemory), .long zW5.pagesAtFirst, .long zW5.pagesMost, .int (iI zW6.globalCount), .ref aWa_globalTypes, .ref aWa_globalsChange, .ref aWa_initialTypes, .ref aWa_initialValues, .ref aEx, .ref aCo])), (aBV, .inr (5, [.ref aWa, .ref aCo, .int (iI x_8.1.function), .ref aBV_types, .int (iI x_8.2.height), .ref aBV_openers, .ref aBV_bases, .ref aBV_blockTypes, .ref aBV_labelTypes, .ref aBV_unreachable, .int (iI zBo.openCount), .int (bI x_8.1.failed)])), (aBV_types, .inl (cI, 2000, .inl (fun k9 => iI (x_8.2.types k9)))), (aBV_bases, .inl (cI, 101, .inl (fun k9 => iI (zBo.bases k9)))), (aBV_unreachable, .inl (cZ, 101, .inl (fun k9 => bI (zBo.unreachable k9))))] := ⟨hP_17, hD_17⟩
        clear hP_17 hD_17
        obtain ⟨hP_17, hD_17⟩ := hQ9
        exact hJK_4 (x_8.1, x_8.2) ⟨hx_8.1, hx_8.2⟩ hf _ _ hP_17 hD_17 hS_17 _ (lv_sub hl [0, 1, 2] rfl)
      · have c_6 := ((zv_eq (iI_t hv_op) (iI_t (show R32 (64) by decide)))).mp c_6
        replace hf := ifp c_6 hf
        refine lv_aload_n hx hb d_BV_checkMemory_36 rfl (lv_at hl 0 rfl) ?_
        refine lv_bipush (v := iI 127) hx hb d_BV_checkMemory_37 (by decide) ?_
        replace hf := obE hnb hf
        obtain ⟨x_10, e_11, hf⟩ := hf
        refine xx_callV (wc := [(aBV, .inr (5, [.ref aWa, .ref aCo, .int (iI y_1.function), .ref aBV_types, .int (iI zBt.height), .ref aBV_openers, .ref aBV_bases, .ref aBV_blockTypes, .ref aBV_labelTypes, .ref aBV_unreachable, .int (iI zBo.openCount), .int (bI y_1.failed)])), (aBV_types, .inl (cI, 2000, .inl (fun k9 => iI (zBt.types k9)))), (aBV_bases, .inl (cI, 101, .inl (fun k9 => iI (zBo.bases k9)))), (aBV_unreachable, .inl (cZ, 101, .inl (fun k9 => bI (zBo.unreachable k9))))]) (wr := [(aCo, .inr (9, [.int (iI zCo.size), .ref aCo_ops, .ref aCo_values, .ref aCo_extras, .ref aCo_ends, .ref aCo_elses, .ref aCo_heights, .ref aCo_targets, .int (iI zCo.labelCount), .ref aCo_labels, .ref aCo_labelTargets])), (aCo_extras, .inl (cI, 2000, .inl (fun k9 => iI (zCo.extras k9)))), (aWa, .inr (7, [.int (iI zW1.typeCount), .ref aWa_parameterCounts, .ref aWa_parameters, .ref aWa_results, .int (iI zW3.functionCount), .ref aWa_functionTypes, .ref aWa_starts, .ref aWa_localCounts, .ref aWa_locals, .int (bI zW5.hasMemory), .long zW5.pagesAtFirst, .long zW5.pagesMost, .int (iI zW6.globalCount), .ref aWa_globalTypes, .ref aWa_globalsChange, .ref aWa_initialTypes, .ref aWa_initialValues, .ref aEx, .ref aCo]))]) (As := [.int (iI 127)]) (rest := []) ⟨hx, hb, hml, hown, hts⟩ xE_st hK hE hA (k_BV_pop l htr G cB cI cJ cZ cG aBV aWa aCo aBV_types aBV_openers aBV_bases aBV_blockTypes aBV_labelTypes aBV_unreachable y_1 zBt zBo hy_1 hzBt hzBo 127 (show R32 (127) by decide) (.ret x_10) e_11 ret_nb _) (xw_V 1 hts m_804 m_806 ms_BV_pop m_6 m_807 (by decide +kernel) ⟨(Nat.le_of_ble_eq_true rfl), (Nat.le_of_ble_eq_true rfl)⟩) hP_11 hD_11 hS_11 [3, 4, 5, 6] [0, 1, 2] rfl rfl (by decide +kernel) (by decide +kernel) (by decide +kernel) 0 5 rfl rfl rfl rfl hl.1 rfl (Nat.le_of_ble_eq_true rfl) d_BV_checkMemory_39 ⟨(Nat.le_of_ble_eq_true rfl), (Nat.le_of_ble_eq_true rfl)⟩ (fun v9 w9 H_18 locs_18 hp hP_18 hD_18 hS_18 => ?_) (fun x9 w9 H9 l9 hp _ _ _ => absurd hp (fun q9 => by obtain ⟨-, ho, -⟩ := q9; cases ho))
        clear hS_11 hD_11 hP_11
        obtain ⟨hx_10, ho, rfl⟩ := hp
        cases ho
        have hQ9 : (fun w9 => va_P G classes w9 H_18 ∧ va_D A w9) [(aCo, .inr (9, [.int (iI zCo.size), .ref aCo_ops, .ref aCo_values, .ref aCo_extras, .ref aCo_ends, .ref aCo_elses, .ref aCo_heights, .ref aCo_targets, .int (iI zCo.labelCount), .ref aCo_labels, .ref aCo_labelTargets])), (aCo_extras, .inl (cI, 2000, .inl (fun k9 => iI (zCo.extras k9)))), (aWa, .inr (7, [.int (iI zW1.typeCount), .ref aWa_parameterCounts, .ref aWa_parameters, .ref aWa_results, .int (iI zW3.functionCount), .ref aWa_functionTypes, .ref aWa_starts, .ref aWa_localCounts, .ref aWa_locals, .int (bI zW5.hasMemory), .long zW5.pagesAtFirst, .long zW5.pagesMost, .int (iI zW6.globalCount), .ref aWa_globalTypes, .ref aWa_globalsChange, .ref aWa_initialTypes, .ref aWa_initialValues, .ref aEx, .ref aCo])), (aBV, .inr (5, [.ref aWa, .ref aCo, .int (iI x_10.1.function), .ref aBV_types, .int (iI x_10.2.1.height), .ref aBV_openers, .ref aBV_bases, .ref aBV_blockTypes, .ref aBV_labelTypes, .ref aBV_unreachable, .int (iI zBo.openCount), .int (bI x_10.1.failed)])), (aBV_types, .inl (cI, 2000, .inl (fun k9 => iI (x_10.2.1.types k9)))), (aBV_bases, .inl (cI, 101, .inl (fun k9 => iI (zBo.bases k9)))), (aBV_unreachable, .inl (cZ, 101, .inl (fun k9 => bI (zBo.unreachable k9))))] := ⟨hP_18, hD_18⟩
        clear hP_18 hD_18
        obtain ⟨hP_18, hD_18⟩ := hQ9
        refine lv_pop hx hb d_BV_checkMemory_42 rfl ?_
        refine lv_aload_n hx hb d_BV_checkMemory_43 rfl (lv_at hl 0 rfl) ?_
        refine lv_bipush (v := iI 127) hx hb d_BV_checkMemory_44 (by decide) ?_
        replace hf := obE hnb hf
        obtain ⟨x_12, e_13, hf⟩ := hf
        refine xx_callV (wc := [(aBV, .inr (5, [.ref aWa, .ref aCo, .int (iI x_10.1.function), .ref aBV_types, .int (iI x_10.2.1.height), .ref aBV_openers, .ref aBV_bases, .ref aBV_blockTypes, .ref aBV_labelTypes, .ref aBV_unreachable, .int (iI zBo.openCount), .int (bI x_10.1.failed)])), (aBV_types, .inl (cI, 2000, .inl (fun k9 => iI (x_10.2.1.types k9))))]) (wr := [(aCo, .inr (9, [.int (iI zCo.size), .ref aCo_ops, .ref aCo_values, .ref aCo_extras, .ref aCo_ends, .ref aCo_elses, .ref aCo_heights, .ref aCo_targets, .int (iI zCo.labelCount), .ref aCo_labels, .ref aCo_labelTargets])), (aCo_extras, .inl (cI, 2000, .inl (fun k9 => iI (zCo.extras k9)))), (aWa, .inr (7, [.int (iI zW1.typeCount), .ref aWa_parameterCounts, .ref aWa_parameters, .ref aWa_results, .int (iI zW3.functionCount), .ref aWa_functionTypes, .ref aWa_starts, .ref aWa_localCounts, .ref aWa_locals, .int (bI zW5.hasMemory), .long zW5.pagesAtFirst, .long zW5.pagesMost, .int (iI zW6.globalCount), .ref aWa_globalTypes, .ref aWa_globalsChange, .ref aWa_initialTypes, .ref aWa_initialValues, .ref aEx, .ref aCo])), (aBV_bases, .inl (cI, 101, .inl (fun k9 => iI (zBo.bases k9)))), (aBV_unreachable, .inl (cZ, 101, .inl (fun k9 => bI (zBo.unreachable k9))))]) (As := [.int (iI 127)]) (rest := []) ⟨hx, hb, hml, hown, hts⟩ xE_st hK hE hA (k_BV_push l htr G cB cI cJ cZ cG aBV aWa aCo aBV_types aBV_openers aBV_bases aBV_blockTypes aBV_labelTypes aBV_unreachable x_10.1 x_10.2.1 zBo hx_10.1 hx_10.2.1 hzBo 127 (show R32 (127) by decide) (.ret x_12) e_13 ret_nb _) (xw_V 1 hts m_820 m_822 ms_BV_push m_6 m_823 (by decide +kernel) ⟨(Nat.le_of_ble_eq_true rfl), (Nat.le_of_ble_eq_true rfl)⟩) hP_18 hD_18 hS_18 [3, 4] [0, 1, 2, 5, 6] rfl rfl (by decide +kernel) (by decide +kernel) (by decide +kernel) 0 5 rfl rfl rfl rfl hl.1 rfl (Nat.le_of_ble_eq_true rfl) d_BV_checkMemory_46 ⟨(Nat.le_of_ble_eq_true rfl), (Nat.le_of_ble_eq_true rfl)⟩ (fun v9 w9 H_19 locs_19 hp hP_19 hD_19 hS_19 => ?_) (fun x9 w9 H9 l9 hp _ _ _ => absurd hp (fun q9 => by obtain ⟨-, ho, -⟩ := q9; cases ho))
        clear hS_18 hD_18 hP_18
        obtain ⟨hx_12, ho, rfl⟩ := hp
        cases ho
        have hQ9 : (fun w9 => va_P G classes w9 H_19 ∧ va_D A w9) [(aCo, .inr (9, [.int (iI zCo.size), .ref aCo_ops, .ref aCo_values, .ref aCo_extras, .ref aCo_ends, .ref aCo_elses, .ref aCo_heights, .ref aCo_targets, .int (iI zCo.labelCount), .ref aCo_labels, .ref aCo_labelTargets])), (aCo_extras, .inl (cI, 2000, .inl (fun k9 => iI (zCo.extras k9)))), (aWa, .inr (7, [.int (iI zW1.typeCount), .ref aWa_parameterCounts, .ref aWa_parameters, .ref aWa_results, .int (iI zW3.functionCount), .ref aWa_functionTypes, .ref aWa_starts, .ref aWa_localCounts, .ref aWa_locals, .int (bI zW5.hasMemory), .long zW5.pagesAtFirst, .long zW5.pagesMost, .int (iI zW6.globalCount), .ref aWa_globalTypes, .ref aWa_globalsChange, .ref aWa_initialTypes, .ref aWa_initialValues, .ref aEx, .ref aCo])), (aBV_bases, .inl (cI, 101, .inl (fun k9 => iI (zBo.bases k9)))), (aBV_unreachable, .inl (cZ, 101, .inl (fun k9 => bI (zBo.unreachable k9)))), (aBV, .inr (5, [.ref aWa, .ref aCo, .int (iI x_12.1.function), .ref aBV_types, .int (iI x_12.2.height), .ref aBV_openers, .ref aBV_bases, .ref aBV_blockTypes, .ref aBV_labelTypes, .ref aBV_unreachable, .int (iI zBo.openCount), .int (bI x_12.1.failed)])), (aBV_types, .inl (cI, 2000, .inl (fun k9 => iI (x_12.2.types k9))))] := ⟨hP_19, hD_19⟩
        clear hP_19 hD_19
        obtain ⟨hP_19, hD_19⟩ := hQ9
        refine lv_goto (tgt := 66) hx hb d_BV_checkMemory_49 (by decide) ?_
        exact hJK_4 (x_12.1, x_12.2) ⟨hx_12.1, hx_12.2⟩ hf _ _ (hP_19.sub [0, 1, 2, 5, 6, 3, 4] rfl) (hD_19.sub [0, 1, 2, 5, 6, 3, 4] (by decide +kernel) rfl) hS_19 _ (lv_sub hl [0, 1, 2] rfl)
    · have c_5 := ((zv_eq (iI_t hv_op) (iI_t (show R32 (63) by decide)))).mp c_5
      replace hf := ifp c_5 hf
      refine lv_aload_n hx hb d_BV_checkMemory_21 rfl (lv_at hl 0 rfl) ?_
      refine lv_bipush (v := iI 127) hx hb d_BV_checkMemory_22 (by decide) ?_
      replace hf := obE hnb hf
      obtain ⟨x_14, e_15, hf⟩ := hf
      refine xx_callV (wc := [(aBV, .inr (5, [.ref aWa, .ref aCo, .int (iI y_1.function), .ref aBV_types, .int (iI zBt.height), .ref aBV_openers, .ref aBV_bases, .ref aBV_blockTypes, .ref aBV_labelTypes, .ref aBV_unreachable, .int (iI zBo.openCount), .int (bI y_1.failed)])), (aBV_types, .inl (cI, 2000, .inl (fun k9 => iI (zBt.types k9))))]) (wr := [(aCo, .inr (9, [.int (iI zCo.size), .ref aCo_ops, .ref aCo_values, .ref aCo_extras, .ref aCo_ends, .ref aCo_elses, .ref aCo_heights, .ref aCo_targets, .int (iI zCo.labelCount), .ref aCo_labels, .ref aCo_labelTargets])), (aCo_extras, .inl (cI, 2000, .inl (fun k9 => iI (zCo.extras k9)))), (aWa, .inr (7, [.int (iI zW1.typeCount), .ref aWa_parameterCounts, .ref aWa_parameters, .ref aWa_results, .int (iI zW3.functionCount), .ref aWa_functionTypes, .ref aWa_starts, .ref aWa_localCounts, .ref aWa_locals, .int (bI zW5.hasMemory), .long zW5.pagesAtFirst, .long zW5.pagesMost, .int (iI zW6.globalCount), .ref aWa_globalTypes, .ref aWa_globalsChange, .ref aWa_initialTypes, .ref aWa_initialValues, .ref aEx, .ref aCo])), (aBV_bases, .inl (cI, 101, .inl (fun k9 => iI (zBo.bases k9)))), (aBV_unreachable, .inl (cZ, 101, .inl (fun k9 => bI (zBo.unreachable k9))))]) (As := [.int (iI 127)]) (rest := []) ⟨hx, hb, hml, hown, hts⟩ xE_st hK hE hA (k_BV_push l htr G cB cI cJ cZ cG aBV aWa aCo aBV_types aBV_openers aBV_bases aBV_blockTypes aBV_labelTypes aBV_unreachable y_1 zBt zBo hy_1 hzBt hzBo 127 (show R32 (127) by decide) (.ret x_14) e_15 ret_nb _) (xw_V 1 hts m_820 m_822 ms_BV_push m_6 m_823 (by decide +kernel) ⟨(Nat.le_of_ble_eq_true rfl), (Nat.le_of_ble_eq_true rfl)⟩) hP_11 hD_11 hS_11 [3, 4] [0, 1, 2, 5, 6] rfl rfl (by decide +kernel) (by decide +kernel) (by decide +kernel) 0 5 rfl rfl rfl rfl hl.1 rfl (Nat.le_of_ble_eq_true rfl) d_BV_checkMemory_24 ⟨(Nat.le_of_ble_eq_true rfl), (Nat.le_of_ble_eq_true rfl)⟩ (fun v9 w9 H_20 locs_20 hp hP_20 hD_20 hS_20 => ?_) (fun x9 w9 H9 l9 hp _ _ _ => absurd hp (fun q9 => by obtain ⟨-, ho, -⟩ := q9; cases ho))
      clear hS_11 hD_11 hP_11
      obtain ⟨hx_14, ho, rfl⟩ := hp
      cases ho
      have hQ9 : (fun w9 => va_P G classes w9 H_20 ∧ va_D A w9) [(aCo, .inr (9, [.int (iI zCo.size), .ref aCo_ops, .ref aCo_values, .ref aCo_extras, .ref aCo_ends, .ref aCo_elses, .ref aCo_heights, .ref aCo_targets, .int (iI zCo.labelCount), .ref aCo_labels, .ref aCo_labelTargets])), (aCo_extras, .inl (cI, 2000, .inl (fun k9 => iI (zCo.extras k9)))), (aWa, .inr (7, [.int (iI zW1.typeCount), .ref aWa_parameterCounts, .ref aWa_parameters, .ref aWa_results, .int (iI zW3.functionCount), .ref aWa_functionTypes, .ref aWa_starts, .ref aWa_localCounts, .ref aWa_locals, .int (bI zW5.hasMemory), .long zW5.pagesAtFirst, .long zW5.pagesMost, .int (iI zW6.globalCount), .ref aWa_globalTypes, .ref aWa_globalsChange, .ref aWa_initialTypes, .ref aWa_initialValues, .ref aEx, .ref aCo])), (aBV_bases, .inl (cI, 101, .inl (fun k9 => iI (zBo.bases k9)))), (aBV_unreachable, .inl (cZ, 101, .inl (fun k9 => bI (zBo.unreachable k9)))), (aBV, .inr (5, [.ref aWa, .ref aCo, .int (iI x_14.1.function), .ref aBV_types, .int (iI x_14.2.height), .ref aBV_openers, .ref aBV_bases, .ref aBV_blockTypes, .ref aBV_labelTypes, .ref aBV_unreachable, .int (iI zBo.openCount), .int (bI x_14.1.failed)])), (aBV_types, .inl (cI, 2000, .inl (fun k9 => iI (x_14.2.types k9))))] := ⟨hP_20, hD_20⟩
      clear hP_20 hD_20
      obtain ⟨hP_20, hD_20⟩ := hQ9
      refine lv_goto (tgt := 66) hx hb d_BV_checkMemory_27 (by decide) ?_
      exact hJK_4 (x_14.1, x_14.2) ⟨hx_14.1, hx_14.2⟩ hf _ _ (hP_20.sub [0, 1, 2, 5, 6, 3, 4] rfl) (hD_20.sub [0, 1, 2, 5, 6, 3, 4] (by decide +kernel) rfl) hS_20 _ (lv_sub hl [0, 1, 2] rfl)
  clear hK_2
  refine lv_if_ne (tgt := 15) hx hb d_BV_checkMemory_7 (by decide) (fun c_16 => ?_) (fun c_16 => ?_)
  · have c_16 := (zb_t c_16)
    replace hf := ifp c_16 hf
    exact hJK_2 zBV hzBV hf _ _ hP hD hS _ (lv_sub hl [0, 1, 2] rfl)
  · have c_16 := (zb_f c_16)
    replace hf := ifn c_16 hf
    refine lv_aload_n hx hb d_BV_checkMemory_10 rfl (lv_at hl 0 rfl) ?_
    refine lv_iconst (v := iI 1) hx hb d_BV_checkMemory_11 (by decide) ?_
    refine W.eq (g2 := F0 m 12 ls [.int (bI true), .ref aBV]) (by rfl) ?_
    refine va_put (D := G) (ci := 5) (v := .int (bI true)) (ty := .boolean) (C := R_BV) (T := F_BV) (N := 12) hx hb hts i_BV t_BV t_BV_ok n_BV hown hK hP hD hS 3 rfl rfl 11 (by decide) (hts _ m_119) (fun _ h9 => h9) rfl (by decide +kernel) (bI_nar _) (bI_fit _) (Nat.le_of_ble_eq_true rfl) d_BV_checkMemory_12 (fun H_21 locs_21 hP_21 hD_21 hS_21 => ?_)
    clear hS hD hP
    have hQ9 : (fun w9 => va_P G classes w9 H_21 ∧ va_D A w9) [(aCo, .inr (9, [.int (iI zCo.size), .ref aCo_ops, .ref aCo_values, .ref aCo_extras, .ref aCo_ends, .ref aCo_elses, .ref aCo_heights, .ref aCo_targets, .int (iI zCo.labelCount), .ref aCo_labels, .ref aCo_labelTargets])), (aCo_extras, .inl (cI, 2000, .inl (fun k9 => iI (zCo.extras k9)))), (aWa, .inr (7, [.int (iI zW1.typeCount), .ref aWa_parameterCounts, .ref aWa_parameters, .ref aWa_results, .int (iI zW3.functionCount), .ref aWa_functionTypes, .ref aWa_starts, .ref aWa_localCounts, .ref aWa_locals, .int (bI zW5.hasMemory), .long zW5.pagesAtFirst, .long zW5.pagesMost, .int (iI zW6.globalCount), .ref aWa_globalTypes, .ref aWa_globalsChange, .ref aWa_initialTypes, .ref aWa_initialValues, .ref aEx, .ref aCo])), (aBV, .inr (5, [.ref aWa, .ref aCo, .int (iI zBV.function), .ref aBV_types, .int (iI zBt.height), .ref aBV_openers, .ref aBV_bases, .ref aBV_blockTypes, .ref aBV_labelTypes, .ref aBV_unreachable, .int (iI zBo.openCount), .int (bI true)])), (aBV_types, .inl (cI, 2000, .inl (fun k9 => iI (zBt.types k9)))), (aBV_bases, .inl (cI, 101, .inl (fun k9 => iI (zBo.bases k9)))), (aBV_unreachable, .inl (cZ, 101, .inl (fun k9 => bI (zBo.unreachable k9))))] := ⟨hP_21, hD_21⟩
    clear hP_21 hD_21
    obtain ⟨hP_21, hD_21⟩ := hQ9
    exact hJK_2 (KBV.mk zBV.function true) (KBV.Ok.mk hzBV.function : KBV.Ok (KBV.mk zBV.function true)) hf _ _ hP_21 hD_21 hS_21 _ (lv_sub hl [0, 1, 2] rfl)
set_option maxHeartbeats 8000000 in
set_option maxRecDepth 100000 in
theorem k_BV_checkOperands (l : Launch) (htr : l.stackTraces = false) (G : va_G) (cB cI cJ cZ cG : ClassId) (aBV : Nat) (aWa : Nat) (aCo : Nat) (aBV_types : Nat) (aBV_openers : Nat) (aBV_bases : Nat) (aBV_blockTypes : Nat) (aBV_labelTypes : Nat) (aBV_unreachable : Nat) (zBV : KBV) (zBt : KBt) (zBo : KBo) (hzBV : KBV.Ok zBV) (hzBt : KBt.Ok zBt) (hzBo : KBo.Ok zBo) (v_takesOne : Bool) (v_taken : Int) (v_given : Int) (hv_taken : R32 v_taken) (hv_given : R32 v_given) (R9 : Out Empty (KBV × KBt)) (hf : f_BV_checkOperands zBV zBt zBo v_takesOne v_taken v_given = R9) (hnb : R9 ≠ .bad) (sz : Nat) : MetX l y_BV_checkOperands (wx y_BV_checkOperands b_BV_checkOperands 4 none) { frames := 1, cells := 0, slots := 0, locals := 22 } (XP G classes (xtys cB cI cJ cZ cG) xE [.ref aBV, .int (bI v_takesOne), .int (iI v_taken), .int (iI v_given)] [(aBV, .inr (5, [.ref aWa, .ref aCo, .int (iI zBV.function), .ref aBV_types, .int (iI zBt.height), .ref aBV_openers, .ref aBV_bases, .ref aBV_blockTypes, .ref aBV_labelTypes, .ref aBV_unreachable, .int (iI zBo.openCount), .int (bI zBV.failed)])), (aBV_types, .inl (cI, 2000, .inl (fun k9 => iI (zBt.types k9)))), (aBV_bases, .inl (cI, 101, .inl (fun k9 => iI (zBo.bases k9)))), (aBV_unreachable, .inl (cZ, 101, .inl (fun k9 => bI (zBo.unreachable k9))))] sz) (XQ G classes (va_A [(aBV, .inr (5, [.ref aWa, .ref aCo, .int (iI zBV.function), .ref aBV_types, .int (iI zBt.height), .ref aBV_openers, .ref aBV_bases, .ref aBV_blockTypes, .ref aBV_labelTypes, .ref aBV_unreachable, .int (iI zBo.openCount), .int (bI zBV.failed)])), (aBV_types, .inl (cI, 2000, .inl (fun k9 => iI (zBt.types k9)))), (aBV_bases, .inl (cI, 101, .inl (fun k9 => iI (zBo.bases k9)))), (aBV_unreachable, .inl (cZ, 101, .inl (fun k9 => bI (zBo.unreachable k9))))] sz) (fun o w1 => ozp R9 (fun x9 => (KBV.Ok x9.1 ∧ KBt.Ok x9.2) ∧ o = .returned none ∧ w1 = [(aBV, .inr (5, [.ref aWa, .ref aCo, .int (iI x9.1.function), .ref aBV_types, .int (iI x9.2.height), .ref aBV_openers, .ref aBV_bases, .ref aBV_blockTypes, .ref aBV_labelTypes, .ref aBV_unreachable, .int (iI zBo.openCount), .int (bI x9.1.failed)])), (aBV_types, .inl (cI, 2000, .inl (fun k9 => iI (x9.2.types k9)))), (aBV_bases, .inl (cI, 101, .inl (fun k9 => iI (zBo.bases k9)))), (aBV_unreachable, .inl (cZ, 101, .inl (fun k9 => bI (zBo.unreachable k9))))]) (fun _ => False))) 0 0 (va_A [(aBV, .inr (5, [.ref aWa, .ref aCo, .int (iI zBV.function), .ref aBV_types, .int (iI zBt.height), .ref aBV_openers, .ref aBV_bases, .ref aBV_blockTypes, .ref aBV_labelTypes, .ref aBV_unreachable, .int (iI zBo.openCount), .int (bI zBV.failed)])), (aBV_types, .inl (cI, 2000, .inl (fun k9 => iI (zBt.types k9)))), (aBV_bases, .inl (cI, 101, .inl (fun k9 => iI (zBo.bases k9)))), (aBV_unreachable, .inl (cZ, 101, .inl (fun k9 => bI (zBo.unreachable k9))))] sz) := by
  refine ex_ofW (cc := b_BV_checkOperands) (maxL := 4) (ret := none) (by decide) rfl ?_
  intro p e s m args below meth c s₁ B hml hno hv
  obtain ⟨rfl, hsz, hP, hK, hD0, hE⟩ := hv
  have hx := B.exec
  have hb := B.bytes
  have hr := B.returns
  have hts : ∀ w ∈ lw_good, w.before _ s = true := fun w h => atoms_spec (ws := wx y_BV_checkOperands b_BV_checkOperands 4 none) B.pre w (List.mem_cons_of_mem _ h)
  have hown : s.vm.findClass R_BV = some m.cls := findClass_of_methodNamed B.named
  have hlocks := B.notSynchronized
  subst hsz
  have hNS := xx_nostat hP
  have hD := hD0.self (sz := s.heap.size)
  generalize hAe : va_A [(aBV, .inr (5, [.ref aWa, .ref aCo, .int (iI zBV.function), .ref aBV_types, .int (iI zBt.height), .ref aBV_openers, .ref aBV_bases, .ref aBV_blockTypes, .ref aBV_labelTypes, .ref aBV_unreachable, .int (iI zBo.openCount), .int (bI zBV.failed)])), (aBV_types, .inl (cI, 2000, .inl (fun k9 => iI (zBt.types k9)))), (aBV_bases, .inl (cI, 101, .inl (fun k9 => iI (zBo.bases k9)))), (aBV_unreachable, .inl (cZ, 101, .inl (fun k9 => bI (zBo.unreachable k9))))] s.heap.size = A at hD hE hNS ⊢
  have hA : ∀ q : Nat, s.heap.size ≤ q → A q := fun q h => by rw [← hAe]; exact Or.inr h
  have hS : va_S A s.heap s.heap [] := va_S.rf
  have hl := lv_entry ([.ref aBV, .int (bI v_takesOne), .int (iI v_taken), .int (iI v_given)]) (n := 4) (Nat.le_of_ble_eq_true rfl)
  rw [lg_entry_eq]
  generalize (lg_sl ([.ref aBV, .int (bI v_takesOne), .int (iI v_taken), .int (iI v_given)]) ++ List.replicate (4 - (lg_sl ([.ref aBV, .int (bI v_takesOne), .int (iI v_taken), .int (iI v_given)])).length) Slot.unset).toArray = ls at hl ⊢
  have hl : lv_has ls 4 [(0, .ref aBV), (1, .int (bI v_takesOne)), (2, .int (iI v_taken)), (3, .int (iI v_given))] := hl
  unfold f_BV_checkOperands at hf
  refine lv_aload_n hx hb d_BV_checkOperands_0 rfl (lv_at hl 0 rfl) ?_
  refine lv_iload_n hx hb d_BV_checkOperands_1 rfl (lv_at hl 2 rfl) ?_
  replace hf := obE hnb hf
  obtain ⟨x_1, e_2, hf⟩ := hf
  refine xx_callV (wc := [(aBV, .inr (5, [.ref aWa, .ref aCo, .int (iI zBV.function), .ref aBV_types, .int (iI zBt.height), .ref aBV_openers, .ref aBV_bases, .ref aBV_blockTypes, .ref aBV_labelTypes, .ref aBV_unreachable, .int (iI zBo.openCount), .int (bI zBV.failed)])), (aBV_types, .inl (cI, 2000, .inl (fun k9 => iI (zBt.types k9)))), (aBV_bases, .inl (cI, 101, .inl (fun k9 => iI (zBo.bases k9)))), (aBV_unreachable, .inl (cZ, 101, .inl (fun k9 => bI (zBo.unreachable k9))))]) (wr := []) (As := [.int (iI v_taken)]) (rest := []) ⟨hx, hb, hml, hown, hts⟩ xE_st hK hE hA (k_BV_pop l htr G cB cI cJ cZ cG aBV aWa aCo aBV_types aBV_openers aBV_bases aBV_blockTypes aBV_labelTypes aBV_unreachable zBV zBt zBo hzBV hzBt hzBo v_taken hv_taken (.ret x_1) e_2 ret_nb _) (xw_V 1 hts m_804 m_806 ms_BV_pop m_6 m_807 (by decide +kernel) ⟨(Nat.le_of_ble_eq_true rfl), (Nat.le_of_ble_eq_true rfl)⟩) hP hD hS [0, 1, 2, 3] [] rfl rfl (by decide +kernel) (by decide +kernel) (by decide +kernel) 0 5 rfl rfl rfl rfl hl.1 rfl (Nat.le_of_ble_eq_true rfl) d_BV_checkOperands_2 ⟨(Nat.le_of_ble_eq_true rfl), (Nat.le_of_ble_eq_true rfl)⟩ (fun v9 w9 H_1 locs_1 hp hP_1 hD_1 hS_1 => ?_) (fun x9 w9 H9 l9 hp _ _ _ => absurd hp (fun q9 => by obtain ⟨-, ho, -⟩ := q9; cases ho))
  clear hS hD hP
  obtain ⟨hx_1, ho, rfl⟩ := hp
  cases ho
  have hQ9 : (fun w9 => va_P G classes w9 H_1 ∧ va_D A w9) [(aBV, .inr (5, [.ref aWa, .ref aCo, .int (iI x_1.1.function), .ref aBV_types, .int (iI x_1.2.1.height), .ref aBV_openers, .ref aBV_bases, .ref aBV_blockTypes, .ref aBV_labelTypes, .ref aBV_unreachable, .int (iI zBo.openCount), .int (bI x_1.1.failed)])), (aBV_types, .inl (cI, 2000, .inl (fun k9 => iI (x_1.2.1.types k9)))), (aBV_bases, .inl (cI, 101, .inl (fun k9 => iI (zBo.bases k9)))), (aBV_unreachable, .inl (cZ, 101, .inl (fun k9 => bI (zBo.unreachable k9))))] := ⟨hP_1, hD_1⟩
  clear hP_1 hD_1
  obtain ⟨hP_1, hD_1⟩ := hQ9
  refine lv_pop hx hb d_BV_checkOperands_5 rfl ?_
  refine lv_iload_n hx hb d_BV_checkOperands_6 rfl (lv_at hl 1 rfl) ?_
  refine jpE hf (fun K_4 hK_4 hf9 => ?_)
  replace hf := hf9
  clear hf9
  have hJK_4 : ∀ (y_3 : KBV × KBt), KBV.Ok y_3.1 ∧ KBt.Ok y_3.2 → K_4 y_3 = R9 → ∀ (H_1 : Heap) (locs_1 : List Loc), (fun w9 => va_P G classes w9 H_1 → va_D A w9 → va_S A s.heap H_1 locs_1 → ∀ (ls : Array Slot), lv_has ls 4 [(0, .ref aBV), (1, .int (bI v_takesOne)), (2, .int (iI v_taken)), (3, .int (iI v_given))] → W p l e (headSpec (wx y_BV_checkOperands b_BV_checkOperands 4 none) { frames := 1, cells := 0, slots := 0, locals := 22 }).room s m ([.ref aBV, .int (bI v_takesOne), .int (iI v_taken), .int (iI v_given)] : List Value).toArray below meth c H_1 locs_1 0 0 (MX below (XQ G classes A (fun o w1 => ozp R9 (fun x9 => (KBV.Ok x9.1 ∧ KBt.Ok x9.2) ∧ o = .returned none ∧ w1 = [(aBV, .inr (5, [.ref aWa, .ref aCo, .int (iI x9.1.function), .ref aBV_types, .int (iI x9.2.height), .ref aBV_openers, .ref aBV_bases, .ref aBV_blockTypes, .ref aBV_labelTypes, .ref aBV_unreachable, .int (iI zBo.openCount), .int (bI x9.1.failed)])), (aBV_types, .inl (cI, 2000, .inl (fun k9 => iI (x9.2.types k9)))), (aBV_bases, .inl (cI, 101, .inl (fun k9 => iI (zBo.bases k9)))), (aBV_unreachable, .inl (cZ, 101, .inl (fun k9 => bI (zBo.unreachable k9))))]) (fun _ => False))) ([.ref aBV, .int (bI v_takesOne), .int (iI v_taken), .int (iI v_given)] : List Value).toArray s 0 0 A) (F0 m 16 ls [])) [(aBV, .inr (5, [.ref aWa, .ref aCo, .int (iI y_3.1.function), .ref aBV_types, .int (iI y_3.2.height), .ref aBV_openers, .ref aBV_bases, .ref aBV_blockTypes, .ref aBV_labelTypes, .ref aBV_unreachable, .int (iI zBo.openCount), .int (bI y_3.1.failed)])), (aBV_types, .inl (cI, 2000, .inl (fun k9 => iI (y_3.2.types k9)))), (aBV_bases, .inl (cI, 101, .inl (fun k9 => iI (zBo.bases k9)))), (aBV_unreachable, .inl (cZ, 101, .inl (fun k9 => bI (zBo.unreachable k9))))] := by
    intro y_3 hy_3 hf H_4 locs_4 hP_4 hD_4 hS_4 ls hl
    clear hS_1 hD_1 hP_1
    replace hf := (congrFun hK_4 y_3).symm.trans hf
    clear hK_4
    refine lv_aload_n hx hb d_BV_checkOperands_16 rfl (lv_at hl 0 rfl) ?_
    refine lv_iload_n hx hb d_BV_checkOperands_17 rfl (lv_at hl 3 rfl) ?_
    replace hf := obE hnb hf
    obtain ⟨x_5, e_6, hf⟩ := hf
    refine xx_callV (wc := [(aBV, .inr (5, [.ref aWa, .ref aCo, .int (iI y_3.1.function), .ref aBV_types, .int (iI y_3.2.height), .ref aBV_openers, .ref aBV_bases, .ref aBV_blockTypes, .ref aBV_labelTypes, .ref aBV_unreachable, .int (iI zBo.openCount), .int (bI y_3.1.failed)])), (aBV_types, .inl (cI, 2000, .inl (fun k9 => iI (y_3.2.types k9))))]) (wr := [(aBV_bases, .inl (cI, 101, .inl (fun k9 => iI (zBo.bases k9)))), (aBV_unreachable, .inl (cZ, 101, .inl (fun k9 => bI (zBo.unreachable k9))))]) (As := [.int (iI v_given)]) (rest := []) ⟨hx, hb, hml, hown, hts⟩ xE_st hK hE hA (k_BV_push l htr G cB cI cJ cZ cG aBV aWa aCo aBV_types aBV_openers aBV_bases aBV_blockTypes aBV_labelTypes aBV_unreachable y_3.1 y_3.2 zBo hy_3.1 hy_3.2 hzBo v_given hv_given (.ret x_5) e_6 ret_nb _) (xw_V 1 hts m_820 m_822 ms_BV_push m_6 m_823 (by decide +kernel) ⟨(Nat.le_of_ble_eq_true rfl), (Nat.le_of_ble_eq_true rfl)⟩) hP_4 hD_4 hS_4 [0, 1] [2, 3] rfl rfl (by decide +kernel) (by decide +kernel) (by decide +kernel) 0 5 rfl rfl rfl rfl hl.1 rfl (Nat.le_of_ble_eq_true rfl) d_BV_checkOperands_18 ⟨(Nat.le_of_ble_eq_true rfl), (Nat.le_of_ble_eq_true rfl)⟩ (fun v9 w9 H_5 locs_5 hp hP_5 hD_5 hS_5 => ?_) (fun x9 w9 H9 l9 hp _ _ _ => absurd hp (fun q9 => by obtain ⟨-, ho, -⟩ := q9; cases ho))
    clear hS_4 hD_4 hP_4
    obtain ⟨hx_5, ho, rfl⟩ := hp
    cases ho
    have hQ9 : (fun w9 => va_P G classes w9 H_5 ∧ va_D A w9) [(aBV_bases, .inl (cI, 101, .inl (fun k9 => iI (zBo.bases k9)))), (aBV_unreachable, .inl (cZ, 101, .inl (fun k9 => bI (zBo.unreachable k9)))), (aBV, .inr (5, [.ref aWa, .ref aCo, .int (iI x_5.1.function), .ref aBV_types, .int (iI x_5.2.height), .ref aBV_openers, .ref aBV_bases, .ref aBV_blockTypes, .ref aBV_labelTypes, .ref aBV_unreachable, .int (iI zBo.openCount), .int (bI x_5.1.failed)])), (aBV_types, .inl (cI, 2000, .inl (fun k9 => iI (x_5.2.types k9))))] := ⟨hP_5, hD_5⟩
    clear hP_5 hD_5
    obtain ⟨hP_5, hD_5⟩ := hQ9
    have hP_5 := hP_5.sub (ws' := [(aBV, .inr (5, [.ref aWa, .ref aCo, .int (iI x_5.1.function), .ref aBV_types, .int (iI x_5.2.height), .ref aBV_openers, .ref aBV_bases, .ref aBV_blockTypes, .ref aBV_labelTypes, .ref aBV_unreachable, .int (iI zBo.openCount), .int (bI x_5.1.failed)])), (aBV_types, .inl (cI, 2000, .inl (fun k9 => iI (x_5.2.types k9)))), (aBV_bases, .inl (cI, 101, .inl (fun k9 => iI (zBo.bases k9)))), (aBV_unreachable, .inl (cZ, 101, .inl (fun k9 => bI (zBo.unreachable k9))))]) [2, 3, 0, 1] rfl
    have hD_5 := hD_5.sub (ws' := [(aBV, .inr (5, [.ref aWa, .ref aCo, .int (iI x_5.1.function), .ref aBV_types, .int (iI x_5.2.height), .ref aBV_openers, .ref aBV_bases, .ref aBV_blockTypes, .ref aBV_labelTypes, .ref aBV_unreachable, .int (iI zBo.openCount), .int (bI x_5.1.failed)])), (aBV_types, .inl (cI, 2000, .inl (fun k9 => iI (x_5.2.types k9)))), (aBV_bases, .inl (cI, 101, .inl (fun k9 => iI (zBo.bases k9)))), (aBV_unreachable, .inl (cZ, 101, .inl (fun k9 => bI (zBo.unreachable k9))))]) [2, 3, 0, 1] (by decide +kernel) rfl
    exact ex_W (fun _ h => ex_mq h) (W.vret hx hb hr (fun t ht hW => ⟨⟨_, ozr hf ⟨⟨hx_5.1, hx_5.2⟩, rfl, rfl⟩, by rw [ht]; exact hP_5, hD_5⟩, hS_5.F ht⟩) hS_5.2.2 d_BV_checkOperands_21)
  clear hK_4
  refine lv_if_ne (tgt := 16) hx hb d_BV_checkOperands_7 (by decide) (fun c_7 => ?_) (fun c_7 => ?_)
  · have c_7 := (zb_t c_7)
    replace hf := ifp c_7 hf
    exact hJK_4 (x_1.1, x_1.2.1) ⟨hx_1.1, hx_1.2.1⟩ hf _ _ hP_1 hD_1 hS_1 _ (lv_sub hl [0, 1, 2, 3] rfl)
  · have c_7 := (zb_f c_7)
    replace hf := ifn c_7 hf
    refine lv_aload_n hx hb d_BV_checkOperands_10 rfl (lv_at hl 0 rfl) ?_
    refine lv_iload_n hx hb d_BV_checkOperands_11 rfl (lv_at hl 2 rfl) ?_
    replace hf := obE hnb hf
    obtain ⟨x_8, e_9, hf⟩ := hf
    refine xx_callV (wc := [(aBV, .inr (5, [.ref aWa, .ref aCo, .int (iI x_1.1.function), .ref aBV_types, .int (iI x_1.2.1.height), .ref aBV_openers, .ref aBV_bases, .ref aBV_blockTypes, .ref aBV_labelTypes, .ref aBV_unreachable, .int (iI zBo.openCount), .int (bI x_1.1.failed)])), (aBV_types, .inl (cI, 2000, .inl (fun k9 => iI (x_1.2.1.types k9)))), (aBV_bases, .inl (cI, 101, .inl (fun k9 => iI (zBo.bases k9)))), (aBV_unreachable, .inl (cZ, 101, .inl (fun k9 => bI (zBo.unreachable k9))))]) (wr := []) (As := [.int (iI v_taken)]) (rest := []) ⟨hx, hb, hml, hown, hts⟩ xE_st hK hE hA (k_BV_pop l htr G cB cI cJ cZ cG aBV aWa aCo aBV_types aBV_openers aBV_bases aBV_blockTypes aBV_labelTypes aBV_unreachable x_1.1 x_1.2.1 zBo hx_1.1 hx_1.2.1 hzBo v_taken hv_taken (.ret x_8) e_9 ret_nb _) (xw_V 1 hts m_804 m_806 ms_BV_pop m_6 m_807 (by decide +kernel) ⟨(Nat.le_of_ble_eq_true rfl), (Nat.le_of_ble_eq_true rfl)⟩) hP_1 hD_1 hS_1 [0, 1, 2, 3] [] rfl rfl (by decide +kernel) (by decide +kernel) (by decide +kernel) 0 5 rfl rfl rfl rfl hl.1 rfl (Nat.le_of_ble_eq_true rfl) d_BV_checkOperands_12 ⟨(Nat.le_of_ble_eq_true rfl), (Nat.le_of_ble_eq_true rfl)⟩ (fun v9 w9 H_6 locs_6 hp hP_6 hD_6 hS_6 => ?_) (fun x9 w9 H9 l9 hp _ _ _ => absurd hp (fun q9 => by obtain ⟨-, ho, -⟩ := q9; cases ho))
    clear hS_1 hD_1 hP_1
    obtain ⟨hx_8, ho, rfl⟩ := hp
    cases ho
    have hQ9 : (fun w9 => va_P G classes w9 H_6 ∧ va_D A w9) [(aBV, .inr (5, [.ref aWa, .ref aCo, .int (iI x_8.1.function), .ref aBV_types, .int (iI x_8.2.1.height), .ref aBV_openers, .ref aBV_bases, .ref aBV_blockTypes, .ref aBV_labelTypes, .ref aBV_unreachable, .int (iI zBo.openCount), .int (bI x_8.1.failed)])), (aBV_types, .inl (cI, 2000, .inl (fun k9 => iI (x_8.2.1.types k9)))), (aBV_bases, .inl (cI, 101, .inl (fun k9 => iI (zBo.bases k9)))), (aBV_unreachable, .inl (cZ, 101, .inl (fun k9 => bI (zBo.unreachable k9))))] := ⟨hP_6, hD_6⟩
    clear hP_6 hD_6
    obtain ⟨hP_6, hD_6⟩ := hQ9
    refine lv_pop hx hb d_BV_checkOperands_15 rfl ?_
    exact hJK_4 (x_8.1, x_8.2.1) ⟨hx_8.1, hx_8.2.1⟩ hf _ _ hP_6 hD_6 hS_6 _ (lv_sub hl [0, 1, 2, 3] rfl)
set_option maxHeartbeats 8000000 in
set_option maxRecDepth 100000 in
theorem k_BV_checkNumeric (l : Launch) (htr : l.stackTraces = false) (G : va_G) (cB cI cJ cZ cG : ClassId) (aBV : Nat) (aWa : Nat) (aCo : Nat) (aBV_types : Nat) (aBV_openers : Nat) (aBV_bases : Nat) (aBV_blockTypes : Nat) (aBV_labelTypes : Nat) (aBV_unreachable : Nat) (zBV : KBV) (zBt : KBt) (zBo : KBo) (hzBV : KBV.Ok zBV) (hzBt : KBt.Ok zBt) (hzBo : KBo.Ok zBo) (v_op : Int) (hv_op : R32 v_op) (R9 : Out Empty (KBV × KBt)) (hf : f_BV_checkNumeric zBV zBt zBo v_op = R9) (hnb : R9 ≠ .bad) (sz : Nat) : MetX l y_BV_checkNumeric (wx y_BV_checkNumeric b_BV_checkNumeric 2 none) { frames := 2, cells := 0, slots := 0, locals := 45 } (XP G classes (xtys cB cI cJ cZ cG) xE [.ref aBV, .int (iI v_op)] [(aBV, .inr (5, [.ref aWa, .ref aCo, .int (iI zBV.function), .ref aBV_types, .int (iI zBt.height), .ref aBV_openers, .ref aBV_bases, .ref aBV_blockTypes, .ref aBV_labelTypes, .ref aBV_unreachable, .int (iI zBo.openCount), .int (bI zBV.failed)])), (aBV_types, .inl (cI, 2000, .inl (fun k9 => iI (zBt.types k9)))), (aBV_bases, .inl (cI, 101, .inl (fun k9 => iI (zBo.bases k9)))), (aBV_unreachable, .inl (cZ, 101, .inl (fun k9 => bI (zBo.unreachable k9))))] sz) (XQ G classes (va_A [(aBV, .inr (5, [.ref aWa, .ref aCo, .int (iI zBV.function), .ref aBV_types, .int (iI zBt.height), .ref aBV_openers, .ref aBV_bases, .ref aBV_blockTypes, .ref aBV_labelTypes, .ref aBV_unreachable, .int (iI zBo.openCount), .int (bI zBV.failed)])), (aBV_types, .inl (cI, 2000, .inl (fun k9 => iI (zBt.types k9)))), (aBV_bases, .inl (cI, 101, .inl (fun k9 => iI (zBo.bases k9)))), (aBV_unreachable, .inl (cZ, 101, .inl (fun k9 => bI (zBo.unreachable k9))))] sz) (fun o w1 => ozp R9 (fun x9 => (KBV.Ok x9.1 ∧ KBt.Ok x9.2) ∧ o = .returned none ∧ w1 = [(aBV, .inr (5, [.ref aWa, .ref aCo, .int (iI x9.1.function), .ref aBV_types, .int (iI x9.2.height), .ref aBV_openers, .ref aBV_bases, .ref aBV_blockTypes, .ref aBV_labelTypes, .ref aBV_unreachable, .int (iI zBo.openCount), .int (bI x9.1.failed)])), (aBV_types, .inl (cI, 2000, .inl (fun k9 => iI (x9.2.types k9)))), (aBV_bases, .inl (cI, 101, .inl (fun k9 => iI (zBo.bases k9)))), (aBV_unreachable, .inl (cZ, 101, .inl (fun k9 => bI (zBo.unreachable k9))))]) (fun _ => False))) 0 0 (va_A [(aBV, .inr (5, [.ref aWa, .ref aCo, .int (iI zBV.function), .ref aBV_types, .int (iI zBt.height), .ref aBV_openers, .ref aBV_bases, .ref aBV_blockTypes, .ref aBV_labelTypes, .ref aBV_unreachable, .int (iI zBo.openCount), .int (bI zBV.failed)])), (aBV_types, .inl (cI, 2000, .inl (fun k9 => iI (zBt.types k9)))), (aBV_bases, .inl (cI, 101, .inl (fun k9 => iI (zBo.bases k9)))), (aBV_unreachable, .inl (cZ, 101, .inl (fun k9 => bI (zBo.unreachable k9))))] sz) := by
  refine ex_ofW (cc := b_BV_checkNumeric) (maxL := 2) (ret := none) (by decide) rfl ?_
  intro p e s m args below meth c s₁ B hml hno hv
  obtain ⟨rfl, hsz, hP, hK, hD0, hE⟩ := hv
  have hx := B.exec
  have hb := B.bytes
  have hr := B.returns
  have hts : ∀ w ∈ lw_good, w.before _ s = true := fun w h => atoms_spec (ws := wx y_BV_checkNumeric b_BV_checkNumeric 2 none) B.pre w (List.mem_cons_of_mem _ h)
  have hown : s.vm.findClass R_BV = some m.cls := findClass_of_methodNamed B.named
  have hlocks := B.notSynchronized
  subst hsz
  have hNS := xx_nostat hP
  have hD := hD0.self (sz := s.heap.size)
  generalize hAe : va_A [(aBV, .inr (5, [.ref aWa, .ref aCo, .int (iI zBV.function), .ref aBV_types, .int (iI zBt.height), .ref aBV_openers, .ref aBV_bases, .ref aBV_blockTypes, .ref aBV_labelTypes, .ref aBV_unreachable, .int (iI zBo.openCount), .int (bI zBV.failed)])), (aBV_types, .inl (cI, 2000, .inl (fun k9 => iI (zBt.types k9)))), (aBV_bases, .inl (cI, 101, .inl (fun k9 => iI (zBo.bases k9)))), (aBV_unreachable, .inl (cZ, 101, .inl (fun k9 => bI (zBo.unreachable k9))))] s.heap.size = A at hD hE hNS ⊢
  have hA : ∀ q : Nat, s.heap.size ≤ q → A q := fun q h => by rw [← hAe]; exact Or.inr h
  have hS : va_S A s.heap s.heap [] := va_S.rf
  have hl := lv_entry ([.ref aBV, .int (iI v_op)]) (n := 2) (Nat.le_of_ble_eq_true rfl)
  rw [lg_entry_eq]
  generalize (lg_sl ([.ref aBV, .int (iI v_op)]) ++ List.replicate (2 - (lg_sl ([.ref aBV, .int (iI v_op)])).length) Slot.unset).toArray = ls at hl ⊢
  have hl : lv_has ls 2 [(0, .ref aBV), (1, .int (iI v_op))] := hl
  unfold f_BV_checkNumeric at hf
  refine lv_iload_n hx hb d_BV_checkNumeric_0 rfl (lv_at hl 1 rfl) ?_
  refine lv_bipush (v := iI 79) hx hb d_BV_checkNumeric_1 (by decide) ?_
  refine jpE hf (fun K_2 hK_2 hf9 => ?_)
  replace hf := hf9
  clear hf9
  have hJK_2 : ∀ (y_1 : KBV × KBt), KBV.Ok y_1.1 ∧ KBt.Ok y_1.2 → K_2 y_1 = R9 → ∀ (H : Heap) (locs : List Loc), (fun w9 => va_P G classes w9 H → va_D A w9 → va_S A s.heap H locs → ∀ (ls : Array Slot), lv_has ls 2 [(0, .ref aBV), (1, .int (iI v_op))] → W p l e (headSpec (wx y_BV_checkNumeric b_BV_checkNumeric 2 none) { frames := 2, cells := 0, slots := 0, locals := 45 }).room s m ([.ref aBV, .int (iI v_op)] : List Value).toArray below meth c H locs 0 0 (MX below (XQ G classes A (fun o w1 => ozp R9 (fun x9 => (KBV.Ok x9.1 ∧ KBt.Ok x9.2) ∧ o = .returned none ∧ w1 = [(aBV, .inr (5, [.ref aWa, .ref aCo, .int (iI x9.1.function), .ref aBV_types, .int (iI x9.2.height), .ref aBV_openers, .ref aBV_bases, .ref aBV_blockTypes, .ref aBV_labelTypes, .ref aBV_unreachable, .int (iI zBo.openCount), .int (bI x9.1.failed)])), (aBV_types, .inl (cI, 2000, .inl (fun k9 => iI (x9.2.types k9)))), (aBV_bases, .inl (cI, 101, .inl (fun k9 => iI (zBo.bases k9)))), (aBV_unreachable, .inl (cZ, 101, .inl (fun k9 => bI (zBo.unreachable k9))))]) (fun _ => False))) ([.ref aBV, .int (iI v_op)] : List Value).toArray s 0 0 A) (F0 m 141 ls [])) [(aBV, .inr (5, [.ref aWa, .ref aCo, .int (iI y_1.1.function), .ref aBV_types, .int (iI y_1.2.height), .ref aBV_openers, .ref aBV_bases, .ref aBV_blockTypes, .ref aBV_labelTypes, .ref aBV_unreachable, .int (iI zBo.openCount), .int (bI y_1.1.failed)])), (aBV_types, .inl (cI, 2000, .inl (fun k9 => iI (y_1.2.types k9)))), (aBV_bases, .inl (cI, 101, .inl (fun k9 => iI (zBo.bases k9)))), (aBV_unreachable, .inl (cZ, 101, .inl (fun k9 => bI (zBo.unreachable k9))))] := by
    intro y_1 hy_1 hf H_15 locs_15 hP_15 hD_15 hS_15 ls hl
    clear hS hD hP
    replace hf := (congrFun hK_2 y_1).symm.trans hf
    clear hK_2
    exact ex_W (fun _ h => ex_mq h) (W.vret hx hb hr (fun t ht hW => ⟨⟨_, ozr hf ⟨⟨hy_1.1, hy_1.2⟩, rfl, rfl⟩, by rw [ht]; exact hP_15, hD_15⟩, hS_15.F ht⟩) hS_15.2.2 d_BV_checkNumeric_141)
  clear hK_2
  refine lv_icmp_gt (tgt := 28) hx hb d_BV_checkNumeric_3 (by decide) (fun c_3 => ?_) (fun c_3 => ?_)
  · have c_3 := ((zv_lt (iI_t (show R32 (79) by decide)) (iI_t hv_op))).mp c_3
    replace hf := ifp c_3 hf
    refine lv_iload_n hx hb d_BV_checkNumeric_28 rfl (lv_at hl 1 rfl) ?_
    refine lv_bipush (v := iI 90) hx hb d_BV_checkNumeric_29 (by decide) ?_
    refine lv_icmp_gt (tgt := 56) hx hb d_BV_checkNumeric_31 (by decide) (fun c_4 => ?_) (fun c_4 => ?_)
    · have c_4 := ((zv_lt (iI_t (show R32 (90) by decide)) (iI_t hv_op))).mp c_4
      replace hf := ifp c_4 hf
      refine lv_iload_n hx hb d_BV_checkNumeric_56 rfl (lv_at hl 1 rfl) ?_
      refine lv_bipush (v := iI 120) hx hb d_BV_checkNumeric_57 (by decide) ?_
      refine lv_icmp_gt (tgt := 84) hx hb d_BV_checkNumeric_59 (by decide) (fun c_5 => ?_) (fun c_5 => ?_)
      · have c_5 := ((zv_lt (iI_t (show R32 (120) by decide)) (iI_t hv_op))).mp c_5
        replace hf := ifp c_5 hf
        refine lv_iload_n hx hb d_BV_checkNumeric_84 rfl (lv_at hl 1 rfl) ?_
        refine lv_sipush (v := iI 138) hx hb d_BV_checkNumeric_85 (by decide) ?_
        refine lv_icmp_gt (tgt := 113) hx hb d_BV_checkNumeric_88 (by decide) (fun c_6 => ?_) (fun c_6 => ?_)
        · have c_6 := ((zv_lt (iI_t (show R32 (138) by decide)) (iI_t hv_op))).mp c_6
          replace hf := ifp c_6 hf
          refine lv_iload_n hx hb d_BV_checkNumeric_113 rfl (lv_at hl 1 rfl) ?_
          refine lv_sipush (v := iI 167) hx hb d_BV_checkNumeric_114 (by decide) ?_
          refine lv_icmp_ne (tgt := 132) hx hb d_BV_checkNumeric_117 (by decide) (fun c_7 => ?_) (fun c_7 => ?_)
          · have c_7 := (fun q9 => c_7 (((zv_eq (iI_t hv_op) (iI_t (show R32 (167) by decide)))).mpr q9))
            replace hf := ifn c_7 hf
            refine lv_aload_n hx hb d_BV_checkNumeric_132 rfl (lv_at hl 0 rfl) ?_
            refine lv_iconst (v := iI 1) hx hb d_BV_checkNumeric_133 (by decide) ?_
            refine lv_bipush (v := iI 127) hx hb d_BV_checkNumeric_134 (by decide) ?_
            refine lv_bipush (v := iI 126) hx hb d_BV_checkNumeric_136 (by decide) ?_
            refine W.eq (g2 := F0 m 138 ls [.int (iI 126), .int (iI 127), .int (bI true), .ref aBV]) (by rfl) ?_
            replace hf := obE hnb hf
            obtain ⟨x_8, e_9, hf⟩ := hf
            refine xx_callV (wc := [(aBV, .inr (5, [.ref aWa, .ref aCo, .int (iI zBV.function), .ref aBV_types, .int (iI zBt.height), .ref aBV_openers, .ref aBV_bases, .ref aBV_blockTypes, .ref aBV_labelTypes, .ref aBV_unreachable, .int (iI zBo.openCount), .int (bI zBV.failed)])), (aBV_types, .inl (cI, 2000, .inl (fun k9 => iI (zBt.types k9)))), (aBV_bases, .inl (cI, 101, .inl (fun k9 => iI (zBo.bases k9)))), (aBV_unreachable, .inl (cZ, 101, .inl (fun k9 => bI (zBo.unreachable k9))))]) (wr := []) (As := [.int (bI true), .int (iI 127), .int (iI 126)]) (rest := []) ⟨hx, hb, hml, hown, hts⟩ xE_st hK hE hA (k_BV_checkOperands l htr G cB cI cJ cZ cG aBV aWa aCo aBV_types aBV_openers aBV_bases aBV_blockTypes aBV_labelTypes aBV_unreachable zBV zBt zBo hzBV hzBt hzBo true 127 126 (show R32 (127) by decide) (show R32 (126) by decide) (.ret x_8) e_9 ret_nb _) (xw_V 3 hts m_876 m_878 ms_BV_checkOperands m_6 m_879 (by decide +kernel) ⟨(Nat.le_of_ble_eq_true rfl), (Nat.le_of_ble_eq_true rfl)⟩) hP hD hS [0, 1, 2, 3] [] rfl rfl (by decide +kernel) (by decide +kernel) (by decide +kernel) 0 5 rfl rfl rfl rfl hl.1 rfl (Nat.le_of_ble_eq_true rfl) d_BV_checkNumeric_138 ⟨(Nat.le_of_ble_eq_true rfl), (Nat.le_of_ble_eq_true rfl)⟩ (fun v9 w9 H_16 locs_16 hp hP_16 hD_16 hS_16 => ?_) (fun x9 w9 H9 l9 hp _ _ _ => absurd hp (fun q9 => by obtain ⟨-, ho, -⟩ := q9; cases ho))
            clear hS hD hP
            obtain ⟨hx_8, ho, rfl⟩ := hp
            cases ho
            have hQ9 : (fun w9 => va_P G classes w9 H_16 ∧ va_D A w9) [(aBV, .inr (5, [.ref aWa, .ref aCo, .int (iI x_8.1.function), .ref aBV_types, .int (iI x_8.2.height), .ref aBV_openers, .ref aBV_bases, .ref aBV_blockTypes, .ref aBV_labelTypes, .ref aBV_unreachable, .int (iI zBo.openCount), .int (bI x_8.1.failed)])), (aBV_types, .inl (cI, 2000, .inl (fun k9 => iI (x_8.2.types k9)))), (aBV_bases, .inl (cI, 101, .inl (fun k9 => iI (zBo.bases k9)))), (aBV_unreachable, .inl (cZ, 101, .inl (fun k9 => bI (zBo.unreachable k9))))] := ⟨hP_16, hD_16⟩
            clear hP_16 hD_16
            obtain ⟨hP_16, hD_16⟩ := hQ9
            exact hJK_2 (x_8.1, x_8.2) ⟨hx_8.1, hx_8.2⟩ hf _ _ hP_16 hD_16 hS_16 _ (lv_sub hl [0, 1] rfl)
          · have c_7 := ((zv_eq (iI_t hv_op) (iI_t (show R32 (167) by decide)))).mp c_7
            replace hf := ifp c_7 hf
            refine lv_aload_n hx hb d_BV_checkNumeric_120 rfl (lv_at hl 0 rfl) ?_
            refine lv_iconst (v := iI 1) hx hb d_BV_checkNumeric_121 (by decide) ?_
            refine lv_bipush (v := iI 126) hx hb d_BV_checkNumeric_122 (by decide) ?_
            refine lv_bipush (v := iI 127) hx hb d_BV_checkNumeric_124 (by decide) ?_
            refine W.eq (g2 := F0 m 126 ls [.int (iI 127), .int (iI 126), .int (bI true), .ref aBV]) (by rfl) ?_
            replace hf := obE hnb hf
            obtain ⟨x_10, e_11, hf⟩ := hf
            refine xx_callV (wc := [(aBV, .inr (5, [.ref aWa, .ref aCo, .int (iI zBV.function), .ref aBV_types, .int (iI zBt.height), .ref aBV_openers, .ref aBV_bases, .ref aBV_blockTypes, .ref aBV_labelTypes, .ref aBV_unreachable, .int (iI zBo.openCount), .int (bI zBV.failed)])), (aBV_types, .inl (cI, 2000, .inl (fun k9 => iI (zBt.types k9)))), (aBV_bases, .inl (cI, 101, .inl (fun k9 => iI (zBo.bases k9)))), (aBV_unreachable, .inl (cZ, 101, .inl (fun k9 => bI (zBo.unreachable k9))))]) (wr := []) (As := [.int (bI true), .int (iI 126), .int (iI 127)]) (rest := []) ⟨hx, hb, hml, hown, hts⟩ xE_st hK hE hA (k_BV_checkOperands l htr G cB cI cJ cZ cG aBV aWa aCo aBV_types aBV_openers aBV_bases aBV_blockTypes aBV_labelTypes aBV_unreachable zBV zBt zBo hzBV hzBt hzBo true 126 127 (show R32 (126) by decide) (show R32 (127) by decide) (.ret x_10) e_11 ret_nb _) (xw_V 3 hts m_876 m_878 ms_BV_checkOperands m_6 m_879 (by decide +kernel) ⟨(Nat.le_of_ble_eq_true rfl), (Nat.le_of_ble_eq_true rfl)⟩) hP hD hS [0, 1, 2, 3] [] rfl rfl (by decide +kernel) (by decide +kernel) (by decide +kernel) 0 5 rfl rfl rfl rfl hl.1 rfl (Nat.le_of_ble_eq_true rfl) d_BV_checkNumeric_126 ⟨(Nat.le_of_ble_eq_true rfl), (Nat.le_of_ble_eq_true rfl)⟩ (fun v9 w9 H_17 locs_17 hp hP_17 hD_17 hS_17 => ?_) (fun x9 w9 H9 l9 hp _ _ _ => absurd hp (fun q9 => by obtain ⟨-, ho, -⟩ := q9; cases ho))
            clear hS hD hP
            obtain ⟨hx_10, ho, rfl⟩ := hp
            cases ho
            have hQ9 : (fun w9 => va_P G classes w9 H_17 ∧ va_D A w9) [(aBV, .inr (5, [.ref aWa, .ref aCo, .int (iI x_10.1.function), .ref aBV_types, .int (iI x_10.2.height), .ref aBV_openers, .ref aBV_bases, .ref aBV_blockTypes, .ref aBV_labelTypes, .ref aBV_unreachable, .int (iI zBo.openCount), .int (bI x_10.1.failed)])), (aBV_types, .inl (cI, 2000, .inl (fun k9 => iI (x_10.2.types k9)))), (aBV_bases, .inl (cI, 101, .inl (fun k9 => iI (zBo.bases k9)))), (aBV_unreachable, .inl (cZ, 101, .inl (fun k9 => bI (zBo.unreachable k9))))] := ⟨hP_17, hD_17⟩
            clear hP_17 hD_17
            obtain ⟨hP_17, hD_17⟩ := hQ9
            refine lv_goto (tgt := 141) hx hb d_BV_checkNumeric_129 (by decide) ?_
            exact hJK_2 (x_10.1, x_10.2) ⟨hx_10.1, hx_10.2⟩ hf _ _ hP_17 hD_17 hS_17 _ (lv_sub hl [0, 1] rfl)
        · have c_6 := (fun q9 => c_6 (((zv_lt (iI_t (show R32 (138) by decide)) (iI_t hv_op))).mpr q9))
          replace hf := ifn c_6 hf
          refine lv_aload_n hx hb d_BV_checkNumeric_91 rfl (lv_at hl 0 rfl) ?_
          refine lv_iload_n hx hb d_BV_checkNumeric_92 rfl (lv_at hl 1 rfl) ?_
          refine lv_bipush (v := iI 123) hx hb d_BV_checkNumeric_93 (by decide) ?_
          refine jpE hf (fun K_13 hK_13 hf9 => ?_)
          replace hf := hf9
          clear hf9
          have hJK_13 : ∀ (y_12 : Bool), True → K_13 y_12 = R9 → ∀ (H : Heap) (locs : List Loc), (fun w9 => va_P G classes w9 H → va_D A w9 → va_S A s.heap H locs → ∀ (ls : Array Slot), lv_has ls 2 [(0, .ref aBV), (1, .int (iI v_op))] → W p l e (headSpec (wx y_BV_checkNumeric b_BV_checkNumeric 2 none) { frames := 2, cells := 0, slots := 0, locals := 45 }).room s m ([.ref aBV, .int (iI v_op)] : List Value).toArray below meth c H locs 0 0 (MX below (XQ G classes A (fun o w1 => ozp R9 (fun x9 => (KBV.Ok x9.1 ∧ KBt.Ok x9.2) ∧ o = .returned none ∧ w1 = [(aBV, .inr (5, [.ref aWa, .ref aCo, .int (iI x9.1.function), .ref aBV_types, .int (iI x9.2.height), .ref aBV_openers, .ref aBV_bases, .ref aBV_blockTypes, .ref aBV_labelTypes, .ref aBV_unreachable, .int (iI zBo.openCount), .int (bI x9.1.failed)])), (aBV_types, .inl (cI, 2000, .inl (fun k9 => iI (x9.2.types k9)))), (aBV_bases, .inl (cI, 101, .inl (fun k9 => iI (zBo.bases k9)))), (aBV_unreachable, .inl (cZ, 101, .inl (fun k9 => bI (zBo.unreachable k9))))]) (fun _ => False))) ([.ref aBV, .int (iI v_op)] : List Value).toArray s 0 0 A) (F0 m 103 ls [.int (bI y_12), .ref aBV])) [(aBV, .inr (5, [.ref aWa, .ref aCo, .int (iI zBV.function), .ref aBV_types, .int (iI zBt.height), .ref aBV_openers, .ref aBV_bases, .ref aBV_blockTypes, .ref aBV_labelTypes, .ref aBV_unreachable, .int (iI zBo.openCount), .int (bI zBV.failed)])), (aBV_types, .inl (cI, 2000, .inl (fun k9 => iI (zBt.types k9)))), (aBV_bases, .inl (cI, 101, .inl (fun k9 => iI (zBo.bases k9)))), (aBV_unreachable, .inl (cZ, 101, .inl (fun k9 => bI (zBo.unreachable k9))))] := by
            intro y_12 hy_12 hf H_19 locs_19 hP_19 hD_19 hS_19 ls hl
            clear hS hD hP
            replace hf := (congrFun hK_13 y_12).symm.trans hf
            clear hK_13
            refine lv_bipush (v := iI 126) hx hb d_BV_checkNumeric_103 (by decide) ?_
            refine lv_bipush (v := iI 126) hx hb d_BV_checkNumeric_105 (by decide) ?_
            replace hf := obE hnb hf
            obtain ⟨x_14, e_15, hf⟩ := hf
            refine xx_callV (wc := [(aBV, .inr (5, [.ref aWa, .ref aCo, .int (iI zBV.function), .ref aBV_types, .int (iI zBt.height), .ref aBV_openers, .ref aBV_bases, .ref aBV_blockTypes, .ref aBV_labelTypes, .ref aBV_unreachable, .int (iI zBo.openCount), .int (bI zBV.failed)])), (aBV_types, .inl (cI, 2000, .inl (fun k9 => iI (zBt.types k9)))), (aBV_bases, .inl (cI, 101, .inl (fun k9 => iI (zBo.bases k9)))), (aBV_unreachable, .inl (cZ, 101, .inl (fun k9 => bI (zBo.unreachable k9))))]) (wr := []) (As := [.int (bI y_12), .int (iI 126), .int (iI 126)]) (rest := []) ⟨hx, hb, hml, hown, hts⟩ xE_st hK hE hA (k_BV_checkOperands l htr G cB cI cJ cZ cG aBV aWa aCo aBV_types aBV_openers aBV_bases aBV_blockTypes aBV_labelTypes aBV_unreachable zBV zBt zBo hzBV hzBt hzBo y_12 126 126 (show R32 (126) by decide) (show R32 (126) by decide) (.ret x_14) e_15 ret_nb _) (xw_V 3 hts m_876 m_878 ms_BV_checkOperands m_6 m_879 (by decide +kernel) ⟨(Nat.le_of_ble_eq_true rfl), (Nat.le_of_ble_eq_true rfl)⟩) hP_19 hD_19 hS_19 [0, 1, 2, 3] [] rfl rfl (by decide +kernel) (by decide +kernel) (by decide +kernel) 0 5 rfl rfl rfl rfl hl.1 rfl (Nat.le_of_ble_eq_true rfl) d_BV_checkNumeric_107 ⟨(Nat.le_of_ble_eq_true rfl), (Nat.le_of_ble_eq_true rfl)⟩ (fun v9 w9 H_20 locs_20 hp hP_20 hD_20 hS_20 => ?_) (fun x9 w9 H9 l9 hp _ _ _ => absurd hp (fun q9 => by obtain ⟨-, ho, -⟩ := q9; cases ho))
            clear hS_19 hD_19 hP_19
            obtain ⟨hx_14, ho, rfl⟩ := hp
            cases ho
            have hQ9 : (fun w9 => va_P G classes w9 H_20 ∧ va_D A w9) [(aBV, .inr (5, [.ref aWa, .ref aCo, .int (iI x_14.1.function), .ref aBV_types, .int (iI x_14.2.height), .ref aBV_openers, .ref aBV_bases, .ref aBV_blockTypes, .ref aBV_labelTypes, .ref aBV_unreachable, .int (iI zBo.openCount), .int (bI x_14.1.failed)])), (aBV_types, .inl (cI, 2000, .inl (fun k9 => iI (x_14.2.types k9)))), (aBV_bases, .inl (cI, 101, .inl (fun k9 => iI (zBo.bases k9)))), (aBV_unreachable, .inl (cZ, 101, .inl (fun k9 => bI (zBo.unreachable k9))))] := ⟨hP_20, hD_20⟩
            clear hP_20 hD_20
            obtain ⟨hP_20, hD_20⟩ := hQ9
            refine lv_goto (tgt := 141) hx hb d_BV_checkNumeric_110 (by decide) ?_
            exact hJK_2 (x_14.1, x_14.2) ⟨hx_14.1, hx_14.2⟩ hf _ _ hP_20 hD_20 hS_20 _ (lv_sub hl [0, 1] rfl)
          clear hK_13
          refine lv_icmp_gt (tgt := 102) hx hb d_BV_checkNumeric_95 (by decide) (fun c_16 => ?_) (fun c_16 => ?_)
          · have c_16 := ((zv_lt (iI_t (show R32 (123) by decide)) (iI_t hv_op))).mp c_16
            replace hf := ifp c_16 hf
            refine lv_iconst (v := iI 0) hx hb d_BV_checkNumeric_102 (by decide) ?_
            refine W.eq (g2 := F0 m 103 ls [.int (bI false), .ref aBV]) (by rfl) ?_
            exact hJK_13 false trivial hf _ _ hP hD hS _ (lv_sub hl [0, 1] rfl)
          · have c_16 := (fun q9 => c_16 (((zv_lt (iI_t (show R32 (123) by decide)) (iI_t hv_op))).mpr q9))
            replace hf := ifn c_16 hf
            refine lv_iconst (v := iI 1) hx hb d_BV_checkNumeric_98 (by decide) ?_
            refine lv_goto (tgt := 103) hx hb d_BV_checkNumeric_99 (by decide) ?_
            refine W.eq (g2 := F0 m 103 ls [.int (bI true), .ref aBV]) (by rfl) ?_
            exact hJK_13 true trivial hf _ _ hP hD hS _ (lv_sub hl [0, 1] rfl)
      · have c_5 := (fun q9 => c_5 (((zv_lt (iI_t (show R32 (120) by decide)) (iI_t hv_op))).mpr q9))
        replace hf := ifn c_5 hf
        refine lv_aload_n hx hb d_BV_checkNumeric_62 rfl (lv_at hl 0 rfl) ?_
        refine lv_iload_n hx hb d_BV_checkNumeric_63 rfl (lv_at hl 1 rfl) ?_
        refine lv_bipush (v := iI 105) hx hb d_BV_checkNumeric_64 (by decide) ?_
        refine jpE hf (fun K_18 hK_18 hf9 => ?_)
        replace hf := hf9
        clear hf9
        have hJK_18 : ∀ (y_17 : Bool), True → K_18 y_17 = R9 → ∀ (H : Heap) (locs : List Loc), (fun w9 => va_P G classes w9 H → va_D A w9 → va_S A s.heap H locs → ∀ (ls : Array Slot), lv_has ls 2 [(0, .ref aBV), (1, .int (iI v_op))] → W p l e (headSpec (wx y_BV_checkNumeric b_BV_checkNumeric 2 none) { frames := 2, cells := 0, slots := 0, locals := 45 }).room s m ([.ref aBV, .int (iI v_op)] : List Value).toArray below meth c H locs 0 0 (MX below (XQ G classes A (fun o w1 => ozp R9 (fun x9 => (KBV.Ok x9.1 ∧ KBt.Ok x9.2) ∧ o = .returned none ∧ w1 = [(aBV, .inr (5, [.ref aWa, .ref aCo, .int (iI x9.1.function), .ref aBV_types, .int (iI x9.2.height), .ref aBV_openers, .ref aBV_bases, .ref aBV_blockTypes, .ref aBV_labelTypes, .ref aBV_unreachable, .int (iI zBo.openCount), .int (bI x9.1.failed)])), (aBV_types, .inl (cI, 2000, .inl (fun k9 => iI (x9.2.types k9)))), (aBV_bases, .inl (cI, 101, .inl (fun k9 => iI (zBo.bases k9)))), (aBV_unreachable, .inl (cZ, 101, .inl (fun k9 => bI (zBo.unreachable k9))))]) (fun _ => False))) ([.ref aBV, .int (iI v_op)] : List Value).toArray s 0 0 A) (F0 m 74 ls [.int (bI y_17), .ref aBV])) [(aBV, .inr (5, [.ref aWa, .ref aCo, .int (iI zBV.function), .ref aBV_types, .int (iI zBt.height), .ref aBV_openers, .ref aBV_bases, .ref aBV_blockTypes, .ref aBV_labelTypes, .ref aBV_unreachable, .int (iI zBo.openCount), .int (bI zBV.failed)])), (aBV_types, .inl (cI, 2000, .inl (fun k9 => iI (zBt.types k9)))), (aBV_bases, .inl (cI, 101, .inl (fun k9 => iI (zBo.bases k9)))), (aBV_unreachable, .inl (cZ, 101, .inl (fun k9 => bI (zBo.unreachable k9))))] := by
          intro y_17 hy_17 hf H_22 locs_22 hP_22 hD_22 hS_22 ls hl
          clear hS hD hP
          replace hf := (congrFun hK_18 y_17).symm.trans hf
          clear hK_18
          refine lv_bipush (v := iI 127) hx hb d_BV_checkNumeric_74 (by decide) ?_
          refine lv_bipush (v := iI 127) hx hb d_BV_checkNumeric_76 (by decide) ?_
          replace hf := obE hnb hf
          obtain ⟨x_19, e_20, hf⟩ := hf
          refine xx_callV (wc := [(aBV, .inr (5, [.ref aWa, .ref aCo, .int (iI zBV.function), .ref aBV_types, .int (iI zBt.height), .ref aBV_openers, .ref aBV_bases, .ref aBV_blockTypes, .ref aBV_labelTypes, .ref aBV_unreachable, .int (iI zBo.openCount), .int (bI zBV.failed)])), (aBV_types, .inl (cI, 2000, .inl (fun k9 => iI (zBt.types k9)))), (aBV_bases, .inl (cI, 101, .inl (fun k9 => iI (zBo.bases k9)))), (aBV_unreachable, .inl (cZ, 101, .inl (fun k9 => bI (zBo.unreachable k9))))]) (wr := []) (As := [.int (bI y_17), .int (iI 127), .int (iI 127)]) (rest := []) ⟨hx, hb, hml, hown, hts⟩ xE_st hK hE hA (k_BV_checkOperands l htr G cB cI cJ cZ cG aBV aWa aCo aBV_types aBV_openers aBV_bases aBV_blockTypes aBV_labelTypes aBV_unreachable zBV zBt zBo hzBV hzBt hzBo y_17 127 127 (show R32 (127) by decide) (show R32 (127) by decide) (.ret x_19) e_20 ret_nb _) (xw_V 3 hts m_876 m_878 ms_BV_checkOperands m_6 m_879 (by decide +kernel) ⟨(Nat.le_of_ble_eq_true rfl), (Nat.le_of_ble_eq_true rfl)⟩) hP_22 hD_22 hS_22 [0, 1, 2, 3] [] rfl rfl (by decide +kernel) (by decide +kernel) (by decide +kernel) 0 5 rfl rfl rfl rfl hl.1 rfl (Nat.le_of_ble_eq_true rfl) d_BV_checkNumeric_78 ⟨(Nat.le_of_ble_eq_true rfl), (Nat.le_of_ble_eq_true rfl)⟩ (fun v9 w9 H_23 locs_23 hp hP_23 hD_23 hS_23 => ?_) (fun x9 w9 H9 l9 hp _ _ _ => absurd hp (fun q9 => by obtain ⟨-, ho, -⟩ := q9; cases ho))
          clear hS_22 hD_22 hP_22
          obtain ⟨hx_19, ho, rfl⟩ := hp
          cases ho
          have hQ9 : (fun w9 => va_P G classes w9 H_23 ∧ va_D A w9) [(aBV, .inr (5, [.ref aWa, .ref aCo, .int (iI x_19.1.function), .ref aBV_types, .int (iI x_19.2.height), .ref aBV_openers, .ref aBV_bases, .ref aBV_blockTypes, .ref aBV_labelTypes, .ref aBV_unreachable, .int (iI zBo.openCount), .int (bI x_19.1.failed)])), (aBV_types, .inl (cI, 2000, .inl (fun k9 => iI (x_19.2.types k9)))), (aBV_bases, .inl (cI, 101, .inl (fun k9 => iI (zBo.bases k9)))), (aBV_unreachable, .inl (cZ, 101, .inl (fun k9 => bI (zBo.unreachable k9))))] := ⟨hP_23, hD_23⟩
          clear hP_23 hD_23
          obtain ⟨hP_23, hD_23⟩ := hQ9
          refine lv_goto (tgt := 141) hx hb d_BV_checkNumeric_81 (by decide) ?_
          exact hJK_2 (x_19.1, x_19.2) ⟨hx_19.1, hx_19.2⟩ hf _ _ hP_23 hD_23 hS_23 _ (lv_sub hl [0, 1] rfl)
        clear hK_18
        refine lv_icmp_gt (tgt := 73) hx hb d_BV_checkNumeric_66 (by decide) (fun c_21 => ?_) (fun c_21 => ?_)
        · have c_21 := ((zv_lt (iI_t (show R32 (105) by decide)) (iI_t hv_op))).mp c_21
          replace hf := ifp c_21 hf
          refine lv_iconst (v := iI 0) hx hb d_BV_checkNumeric_73 (by decide) ?_
          refine W.eq (g2 := F0 m 74 ls [.int (bI false), .ref aBV]) (by rfl) ?_
          exact hJK_18 false trivial hf _ _ hP hD hS _ (lv_sub hl [0, 1] rfl)
        · have c_21 := (fun q9 => c_21 (((zv_lt (iI_t (show R32 (105) by decide)) (iI_t hv_op))).mpr q9))
          replace hf := ifn c_21 hf
          refine lv_iconst (v := iI 1) hx hb d_BV_checkNumeric_69 (by decide) ?_
          refine lv_goto (tgt := 74) hx hb d_BV_checkNumeric_70 (by decide) ?_
          refine W.eq (g2 := F0 m 74 ls [.int (bI true), .ref aBV]) (by rfl) ?_
          exact hJK_18 true trivial hf _ _ hP hD hS _ (lv_sub hl [0, 1] rfl)
    · have c_4 := (fun q9 => c_4 (((zv_lt (iI_t (show R32 (90) by decide)) (iI_t hv_op))).mpr q9))
      replace hf := ifn c_4 hf
      refine lv_aload_n hx hb d_BV_checkNumeric_34 rfl (lv_at hl 0 rfl) ?_
      refine lv_iload_n hx hb d_BV_checkNumeric_35 rfl (lv_at hl 1 rfl) ?_
      refine lv_bipush (v := iI 80) hx hb d_BV_checkNumeric_36 (by decide) ?_
      refine jpE hf (fun K_23 hK_23 hf9 => ?_)
      replace hf := hf9
      clear hf9
      have hJK_23 : ∀ (y_22 : Bool), True → K_23 y_22 = R9 → ∀ (H : Heap) (locs : List Loc), (fun w9 => va_P G classes w9 H → va_D A w9 → va_S A s.heap H locs → ∀ (ls : Array Slot), lv_has ls 2 [(0, .ref aBV), (1, .int (iI v_op))] → W p l e (headSpec (wx y_BV_checkNumeric b_BV_checkNumeric 2 none) { frames := 2, cells := 0, slots := 0, locals := 45 }).room s m ([.ref aBV, .int (iI v_op)] : List Value).toArray below meth c H locs 0 0 (MX below (XQ G classes A (fun o w1 => ozp R9 (fun x9 => (KBV.Ok x9.1 ∧ KBt.Ok x9.2) ∧ o = .returned none ∧ w1 = [(aBV, .inr (5, [.ref aWa, .ref aCo, .int (iI x9.1.function), .ref aBV_types, .int (iI x9.2.height), .ref aBV_openers, .ref aBV_bases, .ref aBV_blockTypes, .ref aBV_labelTypes, .ref aBV_unreachable, .int (iI zBo.openCount), .int (bI x9.1.failed)])), (aBV_types, .inl (cI, 2000, .inl (fun k9 => iI (x9.2.types k9)))), (aBV_bases, .inl (cI, 101, .inl (fun k9 => iI (zBo.bases k9)))), (aBV_unreachable, .inl (cZ, 101, .inl (fun k9 => bI (zBo.unreachable k9))))]) (fun _ => False))) ([.ref aBV, .int (iI v_op)] : List Value).toArray s 0 0 A) (F0 m 46 ls [.int (bI y_22), .ref aBV])) [(aBV, .inr (5, [.ref aWa, .ref aCo, .int (iI zBV.function), .ref aBV_types, .int (iI zBt.height), .ref aBV_openers, .ref aBV_bases, .ref aBV_blockTypes, .ref aBV_labelTypes, .ref aBV_unreachable, .int (iI zBo.openCount), .int (bI zBV.failed)])), (aBV_types, .inl (cI, 2000, .inl (fun k9 => iI (zBt.types k9)))), (aBV_bases, .inl (cI, 101, .inl (fun k9 => iI (zBo.bases k9)))), (aBV_unreachable, .inl (cZ, 101, .inl (fun k9 => bI (zBo.unreachable k9))))] := by
        intro y_22 hy_22 hf H_25 locs_25 hP_25 hD_25 hS_25 ls hl
        clear hS hD hP
        replace hf := (congrFun hK_23 y_22).symm.trans hf
        clear hK_23
        refine lv_bipush (v := iI 126) hx hb d_BV_checkNumeric_46 (by decide) ?_
        refine lv_bipush (v := iI 127) hx hb d_BV_checkNumeric_48 (by decide) ?_
        replace hf := obE hnb hf
        obtain ⟨x_24, e_25, hf⟩ := hf
        refine xx_callV (wc := [(aBV, .inr (5, [.ref aWa, .ref aCo, .int (iI zBV.function), .ref aBV_types, .int (iI zBt.height), .ref aBV_openers, .ref aBV_bases, .ref aBV_blockTypes, .ref aBV_labelTypes, .ref aBV_unreachable, .int (iI zBo.openCount), .int (bI zBV.failed)])), (aBV_types, .inl (cI, 2000, .inl (fun k9 => iI (zBt.types k9)))), (aBV_bases, .inl (cI, 101, .inl (fun k9 => iI (zBo.bases k9)))), (aBV_unreachable, .inl (cZ, 101, .inl (fun k9 => bI (zBo.unreachable k9))))]) (wr := []) (As := [.int (bI y_22), .int (iI 126), .int (iI 127)]) (rest := []) ⟨hx, hb, hml, hown, hts⟩ xE_st hK hE hA (k_BV_checkOperands l htr G cB cI cJ cZ cG aBV aWa aCo aBV_types aBV_openers aBV_bases aBV_blockTypes aBV_labelTypes aBV_unreachable zBV zBt zBo hzBV hzBt hzBo y_22 126 127 (show R32 (126) by decide) (show R32 (127) by decide) (.ret x_24) e_25 ret_nb _) (xw_V 3 hts m_876 m_878 ms_BV_checkOperands m_6 m_879 (by decide +kernel) ⟨(Nat.le_of_ble_eq_true rfl), (Nat.le_of_ble_eq_true rfl)⟩) hP_25 hD_25 hS_25 [0, 1, 2, 3] [] rfl rfl (by decide +kernel) (by decide +kernel) (by decide +kernel) 0 5 rfl rfl rfl rfl hl.1 rfl (Nat.le_of_ble_eq_true rfl) d_BV_checkNumeric_50 ⟨(Nat.le_of_ble_eq_true rfl), (Nat.le_of_ble_eq_true rfl)⟩ (fun v9 w9 H_26 locs_26 hp hP_26 hD_26 hS_26 => ?_) (fun x9 w9 H9 l9 hp _ _ _ => absurd hp (fun q9 => by obtain ⟨-, ho, -⟩ := q9; cases ho))
        clear hS_25 hD_25 hP_25
        obtain ⟨hx_24, ho, rfl⟩ := hp
        cases ho
        have hQ9 : (fun w9 => va_P G classes w9 H_26 ∧ va_D A w9) [(aBV, .inr (5, [.ref aWa, .ref aCo, .int (iI x_24.1.function), .ref aBV_types, .int (iI x_24.2.height), .ref aBV_openers, .ref aBV_bases, .ref aBV_blockTypes, .ref aBV_labelTypes, .ref aBV_unreachable, .int (iI zBo.openCount), .int (bI x_24.1.failed)])), (aBV_types, .inl (cI, 2000, .inl (fun k9 => iI (x_24.2.types k9)))), (aBV_bases, .inl (cI, 101, .inl (fun k9 => iI (zBo.bases k9)))), (aBV_unreachable, .inl (cZ, 101, .inl (fun k9 => bI (zBo.unreachable k9))))] := ⟨hP_26, hD_26⟩
        clear hP_26 hD_26
        obtain ⟨hP_26, hD_26⟩ := hQ9
        refine lv_goto (tgt := 141) hx hb d_BV_checkNumeric_53 (by decide) ?_
        exact hJK_2 (x_24.1, x_24.2) ⟨hx_24.1, hx_24.2⟩ hf _ _ hP_26 hD_26 hS_26 _ (lv_sub hl [0, 1] rfl)
      clear hK_23
      refine lv_icmp_ne (tgt := 45) hx hb d_BV_checkNumeric_38 (by decide) (fun c_26 => ?_) (fun c_26 => ?_)
      · have c_26 := (fun q9 => c_26 (((zv_eq (iI_t hv_op) (iI_t (show R32 (80) by decide)))).mpr q9))
        replace hf := ifn c_26 hf
        refine lv_iconst (v := iI 0) hx hb d_BV_checkNumeric_45 (by decide) ?_
        refine W.eq (g2 := F0 m 46 ls [.int (bI false), .ref aBV]) (by rfl) ?_
        exact hJK_23 false trivial hf _ _ hP hD hS _ (lv_sub hl [0, 1] rfl)
      · have c_26 := ((zv_eq (iI_t hv_op) (iI_t (show R32 (80) by decide)))).mp c_26
        replace hf := ifp c_26 hf
        refine lv_iconst (v := iI 1) hx hb d_BV_checkNumeric_41 (by decide) ?_
        refine lv_goto (tgt := 46) hx hb d_BV_checkNumeric_42 (by decide) ?_
        refine W.eq (g2 := F0 m 46 ls [.int (bI true), .ref aBV]) (by rfl) ?_
        exact hJK_23 true trivial hf _ _ hP hD hS _ (lv_sub hl [0, 1] rfl)
  · have c_3 := (fun q9 => c_3 (((zv_lt (iI_t (show R32 (79) by decide)) (iI_t hv_op))).mpr q9))
    replace hf := ifn c_3 hf
    refine lv_aload_n hx hb d_BV_checkNumeric_6 rfl (lv_at hl 0 rfl) ?_
    refine lv_iload_n hx hb d_BV_checkNumeric_7 rfl (lv_at hl 1 rfl) ?_
    refine lv_bipush (v := iI 69) hx hb d_BV_checkNumeric_8 (by decide) ?_
    refine jpE hf (fun K_28 hK_28 hf9 => ?_)
    replace hf := hf9
    clear hf9
    have hJK_28 : ∀ (y_27 : Bool), True → K_28 y_27 = R9 → ∀ (H : Heap) (locs : List Loc), (fun w9 => va_P G classes w9 H → va_D A w9 → va_S A s.heap H locs → ∀ (ls : Array Slot), lv_has ls 2 [(0, .ref aBV), (1, .int (iI v_op))] → W p l e (headSpec (wx y_BV_checkNumeric b_BV_checkNumeric 2 none) { frames := 2, cells := 0, slots := 0, locals := 45 }).room s m ([.ref aBV, .int (iI v_op)] : List Value).toArray below meth c H locs 0 0 (MX below (XQ G classes A (fun o w1 => ozp R9 (fun x9 => (KBV.Ok x9.1 ∧ KBt.Ok x9.2) ∧ o = .returned none ∧ w1 = [(aBV, .inr (5, [.ref aWa, .ref aCo, .int (iI x9.1.function), .ref aBV_types, .int (iI x9.2.height), .ref aBV_openers, .ref aBV_bases, .ref aBV_blockTypes, .ref aBV_labelTypes, .ref aBV_unreachable, .int (iI zBo.openCount), .int (bI x9.1.failed)])), (aBV_types, .inl (cI, 2000, .inl (fun k9 => iI (x9.2.types k9)))), (aBV_bases, .inl (cI, 101, .inl (fun k9 => iI (zBo.bases k9)))), (aBV_unreachable, .inl (cZ, 101, .inl (fun k9 => bI (zBo.unreachable k9))))]) (fun _ => False))) ([.ref aBV, .int (iI v_op)] : List Value).toArray s 0 0 A) (F0 m 18 ls [.int (bI y_27), .ref aBV])) [(aBV, .inr (5, [.ref aWa, .ref aCo, .int (iI zBV.function), .ref aBV_types, .int (iI zBt.height), .ref aBV_openers, .ref aBV_bases, .ref aBV_blockTypes, .ref aBV_labelTypes, .ref aBV_unreachable, .int (iI zBo.openCount), .int (bI zBV.failed)])), (aBV_types, .inl (cI, 2000, .inl (fun k9 => iI (zBt.types k9)))), (aBV_bases, .inl (cI, 101, .inl (fun k9 => iI (zBo.bases k9)))), (aBV_unreachable, .inl (cZ, 101, .inl (fun k9 => bI (zBo.unreachable k9))))] := by
      intro y_27 hy_27 hf H_28 locs_28 hP_28 hD_28 hS_28 ls hl
      clear hS hD hP
      replace hf := (congrFun hK_28 y_27).symm.trans hf
      clear hK_28
      refine lv_bipush (v := iI 127) hx hb d_BV_checkNumeric_18 (by decide) ?_
      refine lv_bipush (v := iI 127) hx hb d_BV_checkNumeric_20 (by decide) ?_
      replace hf := obE hnb hf
      obtain ⟨x_29, e_30, hf⟩ := hf
      refine xx_callV (wc := [(aBV, .inr (5, [.ref aWa, .ref aCo, .int (iI zBV.function), .ref aBV_types, .int (iI zBt.height), .ref aBV_openers, .ref aBV_bases, .ref aBV_blockTypes, .ref aBV_labelTypes, .ref aBV_unreachable, .int (iI zBo.openCount), .int (bI zBV.failed)])), (aBV_types, .inl (cI, 2000, .inl (fun k9 => iI (zBt.types k9)))), (aBV_bases, .inl (cI, 101, .inl (fun k9 => iI (zBo.bases k9)))), (aBV_unreachable, .inl (cZ, 101, .inl (fun k9 => bI (zBo.unreachable k9))))]) (wr := []) (As := [.int (bI y_27), .int (iI 127), .int (iI 127)]) (rest := []) ⟨hx, hb, hml, hown, hts⟩ xE_st hK hE hA (k_BV_checkOperands l htr G cB cI cJ cZ cG aBV aWa aCo aBV_types aBV_openers aBV_bases aBV_blockTypes aBV_labelTypes aBV_unreachable zBV zBt zBo hzBV hzBt hzBo y_27 127 127 (show R32 (127) by decide) (show R32 (127) by decide) (.ret x_29) e_30 ret_nb _) (xw_V 3 hts m_876 m_878 ms_BV_checkOperands m_6 m_879 (by decide +kernel) ⟨(Nat.le_of_ble_eq_true rfl), (Nat.le_of_ble_eq_true rfl)⟩) hP_28 hD_28 hS_28 [0, 1, 2, 3] [] rfl rfl (by decide +kernel) (by decide +kernel) (by decide +kernel) 0 5 rfl rfl rfl rfl hl.1 rfl (Nat.le_of_ble_eq_true rfl) d_BV_checkNumeric_22 ⟨(Nat.le_of_ble_eq_true rfl), (Nat.le_of_ble_eq_true rfl)⟩ (fun v9 w9 H_29 locs_29 hp hP_29 hD_29 hS_29 => ?_) (fun x9 w9 H9 l9 hp _ _ _ => absurd hp (fun q9 => by obtain ⟨-, ho, -⟩ := q9; cases ho))
      clear hS_28 hD_28 hP_28
      obtain ⟨hx_29, ho, rfl⟩ := hp
      cases ho
      have hQ9 : (fun w9 => va_P G classes w9 H_29 ∧ va_D A w9) [(aBV, .inr (5, [.ref aWa, .ref aCo, .int (iI x_29.1.function), .ref aBV_types, .int (iI x_29.2.height), .ref aBV_openers, .ref aBV_bases, .ref aBV_blockTypes, .ref aBV_labelTypes, .ref aBV_unreachable, .int (iI zBo.openCount), .int (bI x_29.1.failed)])), (aBV_types, .inl (cI, 2000, .inl (fun k9 => iI (x_29.2.types k9)))), (aBV_bases, .inl (cI, 101, .inl (fun k9 => iI (zBo.bases k9)))), (aBV_unreachable, .inl (cZ, 101, .inl (fun k9 => bI (zBo.unreachable k9))))] := ⟨hP_29, hD_29⟩
      clear hP_29 hD_29
      obtain ⟨hP_29, hD_29⟩ := hQ9
      refine lv_goto (tgt := 141) hx hb d_BV_checkNumeric_25 (by decide) ?_
      exact hJK_2 (x_29.1, x_29.2) ⟨hx_29.1, hx_29.2⟩ hf _ _ hP_29 hD_29 hS_29 _ (lv_sub hl [0, 1] rfl)
    clear hK_28
    refine lv_icmp_ne (tgt := 17) hx hb d_BV_checkNumeric_10 (by decide) (fun c_31 => ?_) (fun c_31 => ?_)
    · have c_31 := (fun q9 => c_31 (((zv_eq (iI_t hv_op) (iI_t (show R32 (69) by decide)))).mpr q9))
      replace hf := ifn c_31 hf
      refine lv_iconst (v := iI 0) hx hb d_BV_checkNumeric_17 (by decide) ?_
      refine W.eq (g2 := F0 m 18 ls [.int (bI false), .ref aBV]) (by rfl) ?_
      exact hJK_28 false trivial hf _ _ hP hD hS _ (lv_sub hl [0, 1] rfl)
    · have c_31 := ((zv_eq (iI_t hv_op) (iI_t (show R32 (69) by decide)))).mp c_31
      replace hf := ifp c_31 hf
      refine lv_iconst (v := iI 1) hx hb d_BV_checkNumeric_13 (by decide) ?_
      refine lv_goto (tgt := 18) hx hb d_BV_checkNumeric_14 (by decide) ?_
      refine W.eq (g2 := F0 m 18 ls [.int (bI true), .ref aBV]) (by rfl) ?_
      exact hJK_28 true trivial hf _ _ hP hD hS _ (lv_sub hl [0, 1] rfl)
