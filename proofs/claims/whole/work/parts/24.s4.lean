abbrev b_Op_width : ByteArray := prog_8_method_3_code
def y_Op_width : MethodName := ⟨R_Op, "width", "(I)I"⟩
abbrev b_Op_isLoad : ByteArray := prog_8_method_4_code
def y_Op_isLoad : MethodName := ⟨R_Op, "isLoad", "(I)Z"⟩
abbrev b_Op_isKnown : ByteArray := prog_8_method_2_code
def y_Op_isKnown : MethodName := ⟨R_Op, "isKnown", "(I)Z"⟩
abbrev b_Co_clear : ByteArray := prog_5_method_2_code
def y_Co_clear : MethodName := ⟨R_Co, "clear", "()V"⟩
abbrev b_Co_add : ByteArray := prog_5_method_3_code
def y_Co_add : MethodName := ⟨R_Co, "add", "(I)I"⟩
abbrev b_Co_addLabel : ByteArray := prog_5_method_4_code
def y_Co_addLabel : MethodName := ⟨R_Co, "addLabel", "(I)V"⟩
abbrev b_Wa_clear : ByteArray := prog_12_method_2_code
def y_Wa_clear : MethodName := ⟨R_Wa, "clear", "()V"⟩
abbrev b_Wa_parameterCountOf : ByteArray := prog_12_method_3_code
def y_Wa_parameterCountOf : MethodName := ⟨R_Wa, "parameterCountOf", "(I)I"⟩
abbrev b_Wa_parameterTypeOf : ByteArray := prog_12_method_4_code
def y_Wa_parameterTypeOf : MethodName := ⟨R_Wa, "parameterTypeOf", "(II)I"⟩
abbrev b_Wa_resultOf : ByteArray := prog_12_method_5_code
def y_Wa_resultOf : MethodName := ⟨R_Wa, "resultOf", "(I)I"⟩
abbrev b_Wa_variableTypeOf : ByteArray := prog_12_method_6_code
def y_Wa_variableTypeOf : MethodName := ⟨R_Wa, "variableTypeOf", "(IJ)I"⟩
theorem d_Op_width_0 : decode b_Op_width 0 = .ok (.iload_n 0, 1) := by decide +kernel
theorem d_Op_width_1 : decode b_Op_width 1 = .ok (.bipush 41, 2) := by decide +kernel
theorem d_Op_width_3 : decode b_Op_width 3 = .ok (.if_icmp .eq 9, 3) := by decide +kernel
theorem d_Op_width_6 : decode b_Op_width 6 = .ok (.iload_n 0, 1) := by decide +kernel
theorem d_Op_width_7 : decode b_Op_width 7 = .ok (.bipush 55, 2) := by decide +kernel
theorem d_Op_width_9 : decode b_Op_width 9 = .ok (.if_icmp .ne 6, 3) := by decide +kernel
theorem d_Op_width_12 : decode b_Op_width 12 = .ok (.bipush 8, 2) := by decide +kernel
theorem d_Op_width_14 : decode b_Op_width 14 = .ok (.ireturn, 1) := by decide +kernel
theorem d_Op_width_15 : decode b_Op_width 15 = .ok (.iload_n 0, 1) := by decide +kernel
theorem d_Op_width_16 : decode b_Op_width 16 = .ok (.bipush 40, 2) := by decide +kernel
theorem d_Op_width_18 : decode b_Op_width 18 = .ok (.if_icmp .eq 9, 3) := by decide +kernel
theorem d_Op_width_21 : decode b_Op_width 21 = .ok (.iload_n 0, 1) := by decide +kernel
theorem d_Op_width_22 : decode b_Op_width 22 = .ok (.bipush 54, 2) := by decide +kernel
theorem d_Op_width_24 : decode b_Op_width 24 = .ok (.if_icmp .ne 7, 3) := by decide +kernel
theorem d_Op_width_27 : decode b_Op_width 27 = .ok (.iconst 4, 1) := by decide +kernel
theorem d_Op_width_28 : decode b_Op_width 28 = .ok (.goto 4, 3) := by decide +kernel
theorem d_Op_width_31 : decode b_Op_width 31 = .ok (.iconst 1, 1) := by decide +kernel
theorem d_Op_width_32 : decode b_Op_width 32 = .ok (.ireturn, 1) := by decide +kernel
theorem d_Op_isLoad_0 : decode b_Op_isLoad 0 = .ok (.iload_n 0, 1) := by decide +kernel
theorem d_Op_isLoad_1 : decode b_Op_isLoad 1 = .ok (.bipush 40, 2) := by decide +kernel
theorem d_Op_isLoad_3 : decode b_Op_isLoad 3 = .ok (.if_icmp .lt 13, 3) := by decide +kernel
theorem d_Op_isLoad_6 : decode b_Op_isLoad 6 = .ok (.iload_n 0, 1) := by decide +kernel
theorem d_Op_isLoad_7 : decode b_Op_isLoad 7 = .ok (.bipush 45, 2) := by decide +kernel
theorem d_Op_isLoad_9 : decode b_Op_isLoad 9 = .ok (.if_icmp .gt 7, 3) := by decide +kernel
theorem d_Op_isLoad_12 : decode b_Op_isLoad 12 = .ok (.iconst 1, 1) := by decide +kernel
theorem d_Op_isLoad_13 : decode b_Op_isLoad 13 = .ok (.goto 4, 3) := by decide +kernel
theorem d_Op_isLoad_16 : decode b_Op_isLoad 16 = .ok (.iconst 0, 1) := by decide +kernel
theorem d_Op_isLoad_17 : decode b_Op_isLoad 17 = .ok (.ireturn, 1) := by decide +kernel
theorem d_Op_isKnown_0 : decode b_Op_isKnown 0 = .ok (.iconst 0, 1) := by decide +kernel
theorem d_Op_isKnown_1 : decode b_Op_isKnown 1 = .ok (.istore_n 1, 1) := by decide +kernel
theorem d_Op_isKnown_2 : decode b_Op_isKnown 2 = .ok (.iload_n 1, 1) := by decide +kernel
theorem d_Op_isKnown_3 : decode b_Op_isKnown 3 = .ok (.iconst 1, 1) := by decide +kernel
theorem d_Op_isKnown_4 : decode b_Op_isKnown 4 = .ok (.iadd, 1) := by decide +kernel
theorem d_Op_isKnown_5 : decode b_Op_isKnown 5 = .ok (.getstatic 9, 3) := by decide +kernel
theorem d_Op_isKnown_8 : decode b_Op_isKnown 8 = .ok (.arraylength, 1) := by decide +kernel
theorem d_Op_isKnown_9 : decode b_Op_isKnown 9 = .ok (.if_icmp .ge 31, 3) := by decide +kernel
theorem d_Op_isKnown_12 : decode b_Op_isKnown 12 = .ok (.iload_n 0, 1) := by decide +kernel
theorem d_Op_isKnown_13 : decode b_Op_isKnown 13 = .ok (.getstatic 9, 3) := by decide +kernel
theorem d_Op_isKnown_16 : decode b_Op_isKnown 16 = .ok (.iload_n 1, 1) := by decide +kernel
theorem d_Op_isKnown_17 : decode b_Op_isKnown 17 = .ok (.iaload, 1) := by decide +kernel
theorem d_Op_isKnown_18 : decode b_Op_isKnown 18 = .ok (.if_icmp .lt 16, 3) := by decide +kernel
theorem d_Op_isKnown_21 : decode b_Op_isKnown 21 = .ok (.iload_n 0, 1) := by decide +kernel
theorem d_Op_isKnown_22 : decode b_Op_isKnown 22 = .ok (.getstatic 9, 3) := by decide +kernel
theorem d_Op_isKnown_25 : decode b_Op_isKnown 25 = .ok (.iload_n 1, 1) := by decide +kernel
theorem d_Op_isKnown_26 : decode b_Op_isKnown 26 = .ok (.iconst 1, 1) := by decide +kernel
theorem d_Op_isKnown_27 : decode b_Op_isKnown 27 = .ok (.iadd, 1) := by decide +kernel
theorem d_Op_isKnown_28 : decode b_Op_isKnown 28 = .ok (.iaload, 1) := by decide +kernel
theorem d_Op_isKnown_29 : decode b_Op_isKnown 29 = .ok (.if_icmp .gt 5, 3) := by decide +kernel
theorem d_Op_isKnown_32 : decode b_Op_isKnown 32 = .ok (.iconst 1, 1) := by decide +kernel
theorem d_Op_isKnown_33 : decode b_Op_isKnown 33 = .ok (.ireturn, 1) := by decide +kernel
theorem d_Op_isKnown_34 : decode b_Op_isKnown 34 = .ok (.iinc 1 2, 3) := by decide +kernel
theorem d_Op_isKnown_37 : decode b_Op_isKnown 37 = .ok (.goto (-35), 3) := by decide +kernel
theorem d_Op_isKnown_40 : decode b_Op_isKnown 40 = .ok (.iconst 0, 1) := by decide +kernel
theorem d_Op_isKnown_41 : decode b_Op_isKnown 41 = .ok (.ireturn, 1) := by decide +kernel
theorem d_Co_clear_0 : decode b_Co_clear 0 = .ok (.aload_n 0, 1) := by decide +kernel
theorem d_Co_clear_1 : decode b_Co_clear 1 = .ok (.iconst 0, 1) := by decide +kernel
theorem d_Co_clear_2 : decode b_Co_clear 2 = .ok (.putfield 40, 3) := by decide +kernel
theorem d_Co_clear_5 : decode b_Co_clear 5 = .ok (.aload_n 0, 1) := by decide +kernel
theorem d_Co_clear_6 : decode b_Co_clear 6 = .ok (.iconst 0, 1) := by decide +kernel
theorem d_Co_clear_7 : decode b_Co_clear 7 = .ok (.putfield 44, 3) := by decide +kernel
theorem d_Co_clear_10 : decode b_Co_clear 10 = .ok (.return_, 1) := by decide +kernel
theorem d_Co_add_0 : decode b_Co_add 0 = .ok (.aload_n 0, 1) := by decide +kernel
theorem d_Co_add_1 : decode b_Co_add 1 = .ok (.getfield 40, 3) := by decide +kernel
theorem d_Co_add_4 : decode b_Co_add 4 = .ok (.istore_n 2, 1) := by decide +kernel
theorem d_Co_add_5 : decode b_Co_add 5 = .ok (.aload_n 0, 1) := by decide +kernel
theorem d_Co_add_6 : decode b_Co_add 6 = .ok (.getfield 9, 3) := by decide +kernel
theorem d_Co_add_9 : decode b_Co_add 9 = .ok (.iload_n 2, 1) := by decide +kernel
theorem d_Co_add_10 : decode b_Co_add 10 = .ok (.iload_n 1, 1) := by decide +kernel
theorem d_Co_add_11 : decode b_Co_add 11 = .ok (.iastore, 1) := by decide +kernel
theorem d_Co_add_12 : decode b_Co_add 12 = .ok (.aload_n 0, 1) := by decide +kernel
theorem d_Co_add_13 : decode b_Co_add 13 = .ok (.getfield 15, 3) := by decide +kernel
theorem d_Co_add_16 : decode b_Co_add 16 = .ok (.iload_n 2, 1) := by decide +kernel
theorem d_Co_add_17 : decode b_Co_add 17 = .ok (.lconst 0, 1) := by decide +kernel
theorem d_Co_add_18 : decode b_Co_add 18 = .ok (.lastore, 1) := by decide +kernel
theorem d_Co_add_19 : decode b_Co_add 19 = .ok (.aload_n 0, 1) := by decide +kernel
theorem d_Co_add_20 : decode b_Co_add 20 = .ok (.getfield 19, 3) := by decide +kernel
theorem d_Co_add_23 : decode b_Co_add 23 = .ok (.iload_n 2, 1) := by decide +kernel
theorem d_Co_add_24 : decode b_Co_add 24 = .ok (.bipush 64, 2) := by decide +kernel
theorem d_Co_add_26 : decode b_Co_add 26 = .ok (.iastore, 1) := by decide +kernel
theorem d_Co_add_27 : decode b_Co_add 27 = .ok (.aload_n 0, 1) := by decide +kernel
theorem d_Co_add_28 : decode b_Co_add 28 = .ok (.getfield 22, 3) := by decide +kernel
theorem d_Co_add_31 : decode b_Co_add 31 = .ok (.iload_n 2, 1) := by decide +kernel
theorem d_Co_add_32 : decode b_Co_add 32 = .ok (.iconst (-1), 1) := by decide +kernel
theorem d_Co_add_33 : decode b_Co_add 33 = .ok (.iastore, 1) := by decide +kernel
theorem d_Co_add_34 : decode b_Co_add 34 = .ok (.aload_n 0, 1) := by decide +kernel
theorem d_Co_add_35 : decode b_Co_add 35 = .ok (.getfield 25, 3) := by decide +kernel
theorem d_Co_add_38 : decode b_Co_add 38 = .ok (.iload_n 2, 1) := by decide +kernel
theorem d_Co_add_39 : decode b_Co_add 39 = .ok (.iconst (-1), 1) := by decide +kernel
theorem d_Co_add_40 : decode b_Co_add 40 = .ok (.iastore, 1) := by decide +kernel
theorem d_Co_add_41 : decode b_Co_add 41 = .ok (.aload_n 0, 1) := by decide +kernel
theorem d_Co_add_42 : decode b_Co_add 42 = .ok (.getfield 28, 3) := by decide +kernel
theorem d_Co_add_45 : decode b_Co_add 45 = .ok (.iload_n 2, 1) := by decide +kernel
theorem d_Co_add_46 : decode b_Co_add 46 = .ok (.iconst 0, 1) := by decide +kernel
theorem d_Co_add_47 : decode b_Co_add 47 = .ok (.iastore, 1) := by decide +kernel
theorem d_Co_add_48 : decode b_Co_add 48 = .ok (.aload_n 0, 1) := by decide +kernel
theorem d_Co_add_49 : decode b_Co_add 49 = .ok (.getfield 31, 3) := by decide +kernel
theorem d_Co_add_52 : decode b_Co_add 52 = .ok (.iload_n 2, 1) := by decide +kernel
theorem d_Co_add_53 : decode b_Co_add 53 = .ok (.iconst (-1), 1) := by decide +kernel
theorem d_Co_add_54 : decode b_Co_add 54 = .ok (.iastore, 1) := by decide +kernel
theorem d_Co_add_55 : decode b_Co_add 55 = .ok (.aload_n 0, 1) := by decide +kernel
theorem d_Co_add_56 : decode b_Co_add 56 = .ok (.dup, 1) := by decide +kernel
theorem d_Co_add_57 : decode b_Co_add 57 = .ok (.getfield 40, 3) := by decide +kernel
theorem d_Co_add_60 : decode b_Co_add 60 = .ok (.iconst 1, 1) := by decide +kernel
theorem d_Co_add_61 : decode b_Co_add 61 = .ok (.iadd, 1) := by decide +kernel
theorem d_Co_add_62 : decode b_Co_add 62 = .ok (.putfield 40, 3) := by decide +kernel
theorem d_Co_add_65 : decode b_Co_add 65 = .ok (.iload_n 2, 1) := by decide +kernel
theorem d_Co_add_66 : decode b_Co_add 66 = .ok (.ireturn, 1) := by decide +kernel
theorem d_Co_addLabel_0 : decode b_Co_addLabel 0 = .ok (.aload_n 0, 1) := by decide +kernel
theorem d_Co_addLabel_1 : decode b_Co_addLabel 1 = .ok (.getfield 34, 3) := by decide +kernel
theorem d_Co_addLabel_4 : decode b_Co_addLabel 4 = .ok (.aload_n 0, 1) := by decide +kernel
theorem d_Co_addLabel_5 : decode b_Co_addLabel 5 = .ok (.getfield 44, 3) := by decide +kernel
theorem d_Co_addLabel_8 : decode b_Co_addLabel 8 = .ok (.iload_n 1, 1) := by decide +kernel
theorem d_Co_addLabel_9 : decode b_Co_addLabel 9 = .ok (.iastore, 1) := by decide +kernel
theorem d_Co_addLabel_10 : decode b_Co_addLabel 10 = .ok (.aload_n 0, 1) := by decide +kernel
theorem d_Co_addLabel_11 : decode b_Co_addLabel 11 = .ok (.getfield 37, 3) := by decide +kernel
theorem d_Co_addLabel_14 : decode b_Co_addLabel 14 = .ok (.aload_n 0, 1) := by decide +kernel
theorem d_Co_addLabel_15 : decode b_Co_addLabel 15 = .ok (.getfield 44, 3) := by decide +kernel
theorem d_Co_addLabel_18 : decode b_Co_addLabel 18 = .ok (.iconst (-1), 1) := by decide +kernel
theorem d_Co_addLabel_19 : decode b_Co_addLabel 19 = .ok (.iastore, 1) := by decide +kernel
theorem d_Co_addLabel_20 : decode b_Co_addLabel 20 = .ok (.aload_n 0, 1) := by decide +kernel
theorem d_Co_addLabel_21 : decode b_Co_addLabel 21 = .ok (.dup, 1) := by decide +kernel
theorem d_Co_addLabel_22 : decode b_Co_addLabel 22 = .ok (.getfield 44, 3) := by decide +kernel
theorem d_Co_addLabel_25 : decode b_Co_addLabel 25 = .ok (.iconst 1, 1) := by decide +kernel
theorem d_Co_addLabel_26 : decode b_Co_addLabel 26 = .ok (.iadd, 1) := by decide +kernel
theorem d_Co_addLabel_27 : decode b_Co_addLabel 27 = .ok (.putfield 44, 3) := by decide +kernel
theorem d_Co_addLabel_30 : decode b_Co_addLabel 30 = .ok (.return_, 1) := by decide +kernel
theorem d_Wa_clear_0 : decode b_Wa_clear 0 = .ok (.aload_n 0, 1) := by decide +kernel
theorem d_Wa_clear_1 : decode b_Wa_clear 1 = .ok (.iconst 0, 1) := by decide +kernel
theorem d_Wa_clear_2 : decode b_Wa_clear 2 = .ok (.putfield 61, 3) := by decide +kernel
theorem d_Wa_clear_5 : decode b_Wa_clear 5 = .ok (.aload_n 0, 1) := by decide +kernel
theorem d_Wa_clear_6 : decode b_Wa_clear 6 = .ok (.iconst 0, 1) := by decide +kernel
theorem d_Wa_clear_7 : decode b_Wa_clear 7 = .ok (.putfield 65, 3) := by decide +kernel
theorem d_Wa_clear_10 : decode b_Wa_clear 10 = .ok (.aload_n 0, 1) := by decide +kernel
theorem d_Wa_clear_11 : decode b_Wa_clear 11 = .ok (.iconst 0, 1) := by decide +kernel
theorem d_Wa_clear_12 : decode b_Wa_clear 12 = .ok (.putfield 68, 3) := by decide +kernel
theorem d_Wa_clear_15 : decode b_Wa_clear 15 = .ok (.aload_n 0, 1) := by decide +kernel
theorem d_Wa_clear_16 : decode b_Wa_clear 16 = .ok (.lconst 0, 1) := by decide +kernel
theorem d_Wa_clear_17 : decode b_Wa_clear 17 = .ok (.putfield 72, 3) := by decide +kernel
theorem d_Wa_clear_20 : decode b_Wa_clear 20 = .ok (.aload_n 0, 1) := by decide +kernel
theorem d_Wa_clear_21 : decode b_Wa_clear 21 = .ok (.lconst 0, 1) := by decide +kernel
theorem d_Wa_clear_22 : decode b_Wa_clear 22 = .ok (.putfield 76, 3) := by decide +kernel
theorem d_Wa_clear_25 : decode b_Wa_clear 25 = .ok (.aload_n 0, 1) := by decide +kernel
theorem d_Wa_clear_26 : decode b_Wa_clear 26 = .ok (.iconst 0, 1) := by decide +kernel
theorem d_Wa_clear_27 : decode b_Wa_clear 27 = .ok (.putfield 79, 3) := by decide +kernel
theorem d_Wa_clear_30 : decode b_Wa_clear 30 = .ok (.aload_n 0, 1) := by decide +kernel
theorem d_Wa_clear_31 : decode b_Wa_clear 31 = .ok (.getfield 50, 3) := by decide +kernel
theorem d_Wa_clear_34 : decode b_Wa_clear 34 = .ok (.iconst 0, 1) := by decide +kernel
theorem d_Wa_clear_35 : decode b_Wa_clear 35 = .ok (.putfield 82, 3) := by decide +kernel
theorem d_Wa_clear_38 : decode b_Wa_clear 38 = .ok (.aload_n 0, 1) := by decide +kernel
theorem d_Wa_clear_39 : decode b_Wa_clear 39 = .ok (.getfield 57, 3) := by decide +kernel
theorem d_Wa_clear_42 : decode b_Wa_clear 42 = .ok (.invokevirtual 85, 3) := by decide +kernel
theorem d_Wa_clear_45 : decode b_Wa_clear 45 = .ok (.return_, 1) := by decide +kernel
theorem d_Wa_parameterCountOf_0 : decode b_Wa_parameterCountOf 0 = .ok (.aload_n 0, 1) := by decide +kernel
theorem d_Wa_parameterCountOf_1 : decode b_Wa_parameterCountOf 1 = .ok (.getfield 11, 3) := by decide +kernel
theorem d_Wa_parameterCountOf_4 : decode b_Wa_parameterCountOf 4 = .ok (.aload_n 0, 1) := by decide +kernel
theorem d_Wa_parameterCountOf_5 : decode b_Wa_parameterCountOf 5 = .ok (.getfield 21, 3) := by decide +kernel
theorem d_Wa_parameterCountOf_8 : decode b_Wa_parameterCountOf 8 = .ok (.iload_n 1, 1) := by decide +kernel
theorem d_Wa_parameterCountOf_9 : decode b_Wa_parameterCountOf 9 = .ok (.iaload, 1) := by decide +kernel
theorem d_Wa_parameterCountOf_10 : decode b_Wa_parameterCountOf 10 = .ok (.iaload, 1) := by decide +kernel
theorem d_Wa_parameterCountOf_11 : decode b_Wa_parameterCountOf 11 = .ok (.ireturn, 1) := by decide +kernel
theorem d_Wa_parameterTypeOf_0 : decode b_Wa_parameterTypeOf 0 = .ok (.aload_n 0, 1) := by decide +kernel
theorem d_Wa_parameterTypeOf_1 : decode b_Wa_parameterTypeOf 1 = .ok (.getfield 15, 3) := by decide +kernel
theorem d_Wa_parameterTypeOf_4 : decode b_Wa_parameterTypeOf 4 = .ok (.aload_n 0, 1) := by decide +kernel
theorem d_Wa_parameterTypeOf_5 : decode b_Wa_parameterTypeOf 5 = .ok (.getfield 21, 3) := by decide +kernel
theorem d_Wa_parameterTypeOf_8 : decode b_Wa_parameterTypeOf 8 = .ok (.iload_n 1, 1) := by decide +kernel
theorem d_Wa_parameterTypeOf_9 : decode b_Wa_parameterTypeOf 9 = .ok (.iaload, 1) := by decide +kernel
theorem d_Wa_parameterTypeOf_10 : decode b_Wa_parameterTypeOf 10 = .ok (.bipush 8, 2) := by decide +kernel
theorem d_Wa_parameterTypeOf_12 : decode b_Wa_parameterTypeOf 12 = .ok (.imul, 1) := by decide +kernel
theorem d_Wa_parameterTypeOf_13 : decode b_Wa_parameterTypeOf 13 = .ok (.iload_n 2, 1) := by decide +kernel
theorem d_Wa_parameterTypeOf_14 : decode b_Wa_parameterTypeOf 14 = .ok (.iadd, 1) := by decide +kernel
theorem d_Wa_parameterTypeOf_15 : decode b_Wa_parameterTypeOf 15 = .ok (.iaload, 1) := by decide +kernel
theorem d_Wa_parameterTypeOf_16 : decode b_Wa_parameterTypeOf 16 = .ok (.ireturn, 1) := by decide +kernel
theorem d_Wa_resultOf_0 : decode b_Wa_resultOf 0 = .ok (.aload_n 0, 1) := by decide +kernel
theorem d_Wa_resultOf_1 : decode b_Wa_resultOf 1 = .ok (.getfield 18, 3) := by decide +kernel
theorem d_Wa_resultOf_4 : decode b_Wa_resultOf 4 = .ok (.aload_n 0, 1) := by decide +kernel
theorem d_Wa_resultOf_5 : decode b_Wa_resultOf 5 = .ok (.getfield 21, 3) := by decide +kernel
theorem d_Wa_resultOf_8 : decode b_Wa_resultOf 8 = .ok (.iload_n 1, 1) := by decide +kernel
theorem d_Wa_resultOf_9 : decode b_Wa_resultOf 9 = .ok (.iaload, 1) := by decide +kernel
theorem d_Wa_resultOf_10 : decode b_Wa_resultOf 10 = .ok (.iaload, 1) := by decide +kernel
theorem d_Wa_resultOf_11 : decode b_Wa_resultOf 11 = .ok (.ireturn, 1) := by decide +kernel
theorem d_Wa_variableTypeOf_0 : decode b_Wa_variableTypeOf 0 = .ok (.aload_n 0, 1) := by decide +kernel
theorem d_Wa_variableTypeOf_1 : decode b_Wa_variableTypeOf 1 = .ok (.iload_n 1, 1) := by decide +kernel
theorem d_Wa_variableTypeOf_2 : decode b_Wa_variableTypeOf 2 = .ok (.invokevirtual 88, 3) := by decide +kernel
theorem d_Wa_variableTypeOf_5 : decode b_Wa_variableTypeOf 5 = .ok (.istore 4, 2) := by decide +kernel
theorem d_Wa_variableTypeOf_7 : decode b_Wa_variableTypeOf 7 = .ok (.lload_n 2, 1) := by decide +kernel
theorem d_Wa_variableTypeOf_8 : decode b_Wa_variableTypeOf 8 = .ok (.iload 4, 2) := by decide +kernel
theorem d_Wa_variableTypeOf_10 : decode b_Wa_variableTypeOf 10 = .ok (.i2l, 1) := by decide +kernel
theorem d_Wa_variableTypeOf_11 : decode b_Wa_variableTypeOf 11 = .ok (.lcmp, 1) := by decide +kernel
theorem d_Wa_variableTypeOf_12 : decode b_Wa_variableTypeOf 12 = .ok (.ifCond .ge 11, 3) := by decide +kernel
theorem d_Wa_variableTypeOf_15 : decode b_Wa_variableTypeOf 15 = .ok (.aload_n 0, 1) := by decide +kernel
theorem d_Wa_variableTypeOf_16 : decode b_Wa_variableTypeOf 16 = .ok (.iload_n 1, 1) := by decide +kernel
theorem d_Wa_variableTypeOf_17 : decode b_Wa_variableTypeOf 17 = .ok (.lload_n 2, 1) := by decide +kernel
theorem d_Wa_variableTypeOf_18 : decode b_Wa_variableTypeOf 18 = .ok (.l2i, 1) := by decide +kernel
theorem d_Wa_variableTypeOf_19 : decode b_Wa_variableTypeOf 19 = .ok (.invokevirtual 92, 3) := by decide +kernel
theorem d_Wa_variableTypeOf_22 : decode b_Wa_variableTypeOf 22 = .ok (.ireturn, 1) := by decide +kernel
theorem d_Wa_variableTypeOf_23 : decode b_Wa_variableTypeOf 23 = .ok (.lload_n 2, 1) := by decide +kernel
theorem d_Wa_variableTypeOf_24 : decode b_Wa_variableTypeOf 24 = .ok (.iload 4, 2) := by decide +kernel
theorem d_Wa_variableTypeOf_26 : decode b_Wa_variableTypeOf 26 = .ok (.i2l, 1) := by decide +kernel
theorem d_Wa_variableTypeOf_27 : decode b_Wa_variableTypeOf 27 = .ok (.lsub, 1) := by decide +kernel
theorem d_Wa_variableTypeOf_28 : decode b_Wa_variableTypeOf 28 = .ok (.lstore 5, 2) := by decide +kernel
theorem d_Wa_variableTypeOf_30 : decode b_Wa_variableTypeOf 30 = .ok (.lload 5, 2) := by decide +kernel
theorem d_Wa_variableTypeOf_32 : decode b_Wa_variableTypeOf 32 = .ok (.aload_n 0, 1) := by decide +kernel
theorem d_Wa_variableTypeOf_33 : decode b_Wa_variableTypeOf 33 = .ok (.getfield 27, 3) := by decide +kernel
theorem d_Wa_variableTypeOf_36 : decode b_Wa_variableTypeOf 36 = .ok (.iload_n 1, 1) := by decide +kernel
theorem d_Wa_variableTypeOf_37 : decode b_Wa_variableTypeOf 37 = .ok (.iaload, 1) := by decide +kernel
theorem d_Wa_variableTypeOf_38 : decode b_Wa_variableTypeOf 38 = .ok (.i2l, 1) := by decide +kernel
theorem d_Wa_variableTypeOf_39 : decode b_Wa_variableTypeOf 39 = .ok (.lcmp, 1) := by decide +kernel
theorem d_Wa_variableTypeOf_40 : decode b_Wa_variableTypeOf 40 = .ok (.ifCond .ge 19, 3) := by decide +kernel
theorem d_Wa_variableTypeOf_43 : decode b_Wa_variableTypeOf 43 = .ok (.aload_n 0, 1) := by decide +kernel
theorem d_Wa_variableTypeOf_44 : decode b_Wa_variableTypeOf 44 = .ok (.getfield 30, 3) := by decide +kernel
theorem d_Wa_variableTypeOf_47 : decode b_Wa_variableTypeOf 47 = .ok (.iload_n 1, 1) := by decide +kernel
theorem d_Wa_variableTypeOf_48 : decode b_Wa_variableTypeOf 48 = .ok (.bipush 60, 2) := by decide +kernel
theorem d_Wa_variableTypeOf_50 : decode b_Wa_variableTypeOf 50 = .ok (.imul, 1) := by decide +kernel
theorem d_Wa_variableTypeOf_51 : decode b_Wa_variableTypeOf 51 = .ok (.lload 5, 2) := by decide +kernel
theorem d_Wa_variableTypeOf_53 : decode b_Wa_variableTypeOf 53 = .ok (.l2i, 1) := by decide +kernel
theorem d_Wa_variableTypeOf_54 : decode b_Wa_variableTypeOf 54 = .ok (.iadd, 1) := by decide +kernel
theorem d_Wa_variableTypeOf_55 : decode b_Wa_variableTypeOf 55 = .ok (.iaload, 1) := by decide +kernel
theorem d_Wa_variableTypeOf_56 : decode b_Wa_variableTypeOf 56 = .ok (.goto 5, 3) := by decide +kernel
theorem d_Wa_variableTypeOf_59 : decode b_Wa_variableTypeOf 59 = .ok (.bipush 64, 2) := by decide +kernel
theorem d_Wa_variableTypeOf_61 : decode b_Wa_variableTypeOf 61 = .ok (.ireturn, 1) := by decide +kernel
theorem m_712 : Cond.fieldLink R_Op 9 "WaferRunner$Op" "KNOWN" "[I" ∈ lw_good := lw_in (List.mem_append_right _ (List.mem_of_getElem? (i := 712) (by decide +kernel))) (by decide +kernel)
theorem m_256 : Cond.fieldLink R_Co 40 "WaferRunner$Code" "size" "I" ∈ lw_good := lw_in (List.mem_append_right _ (List.mem_of_getElem? (i := 256) (by decide +kernel))) (by decide +kernel)
theorem m_284 : Cond.fieldLink R_Co 44 "WaferRunner$Code" "labelCount" "I" ∈ lw_good := lw_in (List.mem_append_right _ (List.mem_of_getElem? (i := 284) (by decide +kernel))) (by decide +kernel)
theorem m_314 : Cond.fieldLink R_Wa 61 "WaferRunner$Wafer" "typeCount" "I" ∈ lw_good := lw_in (List.mem_append_right _ (List.mem_of_getElem? (i := 314) (by decide +kernel))) (by decide +kernel)
theorem m_323 : Cond.fieldLink R_Wa 65 "WaferRunner$Wafer" "functionCount" "I" ∈ lw_good := lw_in (List.mem_append_right _ (List.mem_of_getElem? (i := 323) (by decide +kernel))) (by decide +kernel)
theorem m_340 : Cond.fieldLink R_Wa 68 "WaferRunner$Wafer" "hasMemory" "Z" ∈ lw_good := lw_in (List.mem_append_right _ (List.mem_of_getElem? (i := 340) (by decide +kernel))) (by decide +kernel)
theorem m_344 : Cond.fieldLink R_Wa 72 "WaferRunner$Wafer" "pagesAtFirst" "J" ∈ lw_good := lw_in (List.mem_append_right _ (List.mem_of_getElem? (i := 344) (by decide +kernel))) (by decide +kernel)
theorem m_348 : Cond.fieldLink R_Wa 76 "WaferRunner$Wafer" "pagesMost" "J" ∈ lw_good := lw_in (List.mem_append_right _ (List.mem_of_getElem? (i := 348) (by decide +kernel))) (by decide +kernel)
theorem m_352 : Cond.fieldLink R_Wa 79 "WaferRunner$Wafer" "globalCount" "I" ∈ lw_good := lw_in (List.mem_append_right _ (List.mem_of_getElem? (i := 352) (by decide +kernel))) (by decide +kernel)
theorem m_226 : Cond.fieldLink R_Wa 82 "WaferRunner$Exports" "size" "I" ∈ lw_good := lw_in (List.mem_append_right _ (List.mem_of_getElem? (i := 226) (by decide +kernel))) (by decide +kernel)
theorem m_590 : Cond.methodLink R_Wa 85 y_Co_clear ∈ lw_good := lw_in (List.mem_append_right _ (List.mem_of_getElem? (i := 590) (by decide +kernel))) (by decide +kernel)
theorem m_591 : Cond.instanceMethod y_Co_clear ∈ lw_good := lw_in (List.mem_append_right _ (List.mem_of_getElem? (i := 591) (by decide +kernel))) (by decide +kernel)
theorem m_592 : Cond.selects R_Co y_Co_clear y_Co_clear ∈ lw_good := lw_in (List.mem_append_right _ (List.mem_of_getElem? (i := 592) (by decide +kernel))) (by decide +kernel)
theorem m_593 : Cond.code y_Co_clear b_Co_clear 1 none ∈ lw_good := lw_in (List.mem_append_right _ (List.mem_of_getElem? (i := 593) (by decide +kernel))) (by decide +kernel)
theorem m_848 : Cond.methodLink R_Wa 88 y_Wa_parameterCountOf ∈ lw_good := lw_in (List.mem_append_right _ (List.mem_of_getElem? (i := 848) (by decide +kernel))) (by decide +kernel)
theorem m_833 : Cond.instanceMethod y_Wa_parameterCountOf ∈ lw_good := lw_in (List.mem_append_right _ (List.mem_of_getElem? (i := 833) (by decide +kernel))) (by decide +kernel)
theorem m_834 : Cond.selects R_Wa y_Wa_parameterCountOf y_Wa_parameterCountOf ∈ lw_good := lw_in (List.mem_append_right _ (List.mem_of_getElem? (i := 834) (by decide +kernel))) (by decide +kernel)
theorem m_835 : Cond.code y_Wa_parameterCountOf b_Wa_parameterCountOf 2 (some .int) ∈ lw_good := lw_in (List.mem_append_right _ (List.mem_of_getElem? (i := 835) (by decide +kernel))) (by decide +kernel)
theorem m_849 : Cond.methodLink R_Wa 92 y_Wa_parameterTypeOf ∈ lw_good := lw_in (List.mem_append_right _ (List.mem_of_getElem? (i := 849) (by decide +kernel))) (by decide +kernel)
theorem m_837 : Cond.instanceMethod y_Wa_parameterTypeOf ∈ lw_good := lw_in (List.mem_append_right _ (List.mem_of_getElem? (i := 837) (by decide +kernel))) (by decide +kernel)
theorem m_838 : Cond.selects R_Wa y_Wa_parameterTypeOf y_Wa_parameterTypeOf ∈ lw_good := lw_in (List.mem_append_right _ (List.mem_of_getElem? (i := 838) (by decide +kernel))) (by decide +kernel)
theorem m_839 : Cond.code y_Wa_parameterTypeOf b_Wa_parameterTypeOf 3 (some .int) ∈ lw_good := lw_in (List.mem_append_right _ (List.mem_of_getElem? (i := 839) (by decide +kernel))) (by decide +kernel)
set_option maxHeartbeats 8000000 in
set_option maxRecDepth 100000 in
theorem k_Op_width (l : Launch) (htr : l.stackTraces = false) (G : va_G) (cB cI cJ cZ cG : ClassId) (v_op : Int) (hv_op : R32 v_op) (R9 : Out Empty (Int)) (hf : f_Op_width v_op = R9) (hnb : R9 ≠ .bad) (sz : Nat) : MetX l y_Op_width (wx y_Op_width b_Op_width 1 (some .int)) { frames := 0, cells := 0, slots := 0, locals := 0 } (XP G classes (xtys cB cI cJ cZ cG) xE [.int (iI v_op)] [] sz) (XQ G classes (va_A [] sz) (fun o w1 => ozp R9 (fun x9 => (R32 x9) ∧ o = .returned (some (.int (iI x9))) ∧ w1 = []) (fun _ => False))) 0 0 (va_A [] sz) := by
  refine ex_ofW (cc := b_Op_width) (maxL := 1) (ret := (some .int)) (by decide) rfl ?_
  intro p e s m args below meth c s₁ B hml hno hv
  obtain ⟨rfl, hsz, hP, hK, hD0, hE⟩ := hv
  have hx := B.exec
  have hb := B.bytes
  have hr := B.returns
  have hts : ∀ w ∈ lw_good, w.before _ s = true := fun w h => atoms_spec (ws := wx y_Op_width b_Op_width 1 (some .int)) B.pre w (List.mem_cons_of_mem _ h)
  have hown : s.vm.findClass R_Op = some m.cls := findClass_of_methodNamed B.named
  have hlocks := B.notSynchronized
  subst hsz
  have hNS := xx_nostat hP
  have hD := hD0.self (sz := s.heap.size)
  generalize hAe : va_A [] s.heap.size = A at hD hE hNS ⊢
  have hA : ∀ q : Nat, s.heap.size ≤ q → A q := fun q h => by rw [← hAe]; exact Or.inr h
  have hS : va_S A s.heap s.heap [] := va_S.rf
  have hl := lv_entry ([.int (iI v_op)]) (n := 1) (Nat.le_of_ble_eq_true rfl)
  rw [lg_entry_eq]
  generalize (lg_sl ([.int (iI v_op)]) ++ List.replicate (1 - (lg_sl ([.int (iI v_op)])).length) Slot.unset).toArray = ls at hl ⊢
  have hl : lv_has ls 1 [(0, .int (iI v_op))] := hl
  unfold f_Op_width at hf
  refine lv_iload_n hx hb d_Op_width_0 rfl (lv_at hl 0 rfl) ?_
  refine lv_bipush (v := iI 41) hx hb d_Op_width_1 (by decide) ?_
  refine jpE hf (fun K_2 hK_2 hf9 => ?_)
  replace hf := hf9
  clear hf9
  have hJK_2 : ∀ (y_1 : Unit), True → K_2 y_1 = R9 → ∀ (H : Heap) (locs : List Loc), va_P G classes [] H → va_D A [] → va_S A s.heap H locs → ∀ (ls : Array Slot), lv_has ls 1 [(0, .int (iI v_op))] → W p l e (headSpec (wx y_Op_width b_Op_width 1 (some .int)) { frames := 0, cells := 0, slots := 0, locals := 0 }).room s m ([.int (iI v_op)] : List Value).toArray below meth c H locs 0 0 (MX below (XQ G classes A (fun o w1 => ozp R9 (fun x9 => (R32 x9) ∧ o = .returned (some (.int (iI x9))) ∧ w1 = []) (fun _ => False))) ([.int (iI v_op)] : List Value).toArray s 0 0 A) (F0 m 12 ls []) := by
    intro y_1 hy_1 hf H_3 locs_3 hP_3 hD_3 hS_3 ls hl
    clear hS hD hP
    replace hf := (congrFun hK_2 y_1).symm.trans hf
    clear hK_2
    refine lv_bipush (v := iI 8) hx hb d_Op_width_12 (by decide) ?_
    exact ex_W (fun _ h => ex_mq h) (W.iret (v := iI 8) hx hb hr (fun t ht hW => ⟨⟨_, ozr hf ⟨(show R32 (8) by decide), rfl, rfl⟩, by rw [ht]; exact hP_3, hD_3⟩, hS_3.F ht⟩) hS_3.2.2 d_Op_width_14)
  clear hK_2
  refine lv_icmp_eq (tgt := 12) hx hb d_Op_width_3 (by decide) (fun c_3 => ?_) (fun c_3 => ?_)
  · have c_3 := ((zv_eq (iI_t hv_op) (iI_t (show R32 (41) by decide)))).mp c_3
    replace hf := ifp c_3 hf
    exact hJK_2 () trivial hf _ _ hP hD hS _ (lv_sub hl [0] rfl)
  · have c_3 := (fun q9 => c_3 (((zv_eq (iI_t hv_op) (iI_t (show R32 (41) by decide)))).mpr q9))
    replace hf := ifn c_3 hf
    refine lv_iload_n hx hb d_Op_width_6 rfl (lv_at hl 0 rfl) ?_
    refine lv_bipush (v := iI 55) hx hb d_Op_width_7 (by decide) ?_
    refine lv_icmp_ne (tgt := 15) hx hb d_Op_width_9 (by decide) (fun c_4 => ?_) (fun c_4 => ?_)
    · have c_4 := (fun q9 => c_4 (((zv_eq (iI_t hv_op) (iI_t (show R32 (55) by decide)))).mpr q9))
      replace hf := ifn c_4 hf
      refine lv_iload_n hx hb d_Op_width_15 rfl (lv_at hl 0 rfl) ?_
      refine lv_bipush (v := iI 40) hx hb d_Op_width_16 (by decide) ?_
      refine jpE hf (fun K_6 hK_6 hf9 => ?_)
      replace hf := hf9
      clear hf9
      have hJK_6 : ∀ (y_5 : Int), R32 y_5 → K_6 y_5 = R9 → ∀ (H : Heap) (locs : List Loc), va_P G classes [] H → va_D A [] → va_S A s.heap H locs → ∀ (ls : Array Slot), lv_has ls 1 [(0, .int (iI v_op))] → W p l e (headSpec (wx y_Op_width b_Op_width 1 (some .int)) { frames := 0, cells := 0, slots := 0, locals := 0 }).room s m ([.int (iI v_op)] : List Value).toArray below meth c H locs 0 0 (MX below (XQ G classes A (fun o w1 => ozp R9 (fun x9 => (R32 x9) ∧ o = .returned (some (.int (iI x9))) ∧ w1 = []) (fun _ => False))) ([.int (iI v_op)] : List Value).toArray s 0 0 A) (F0 m 32 ls [.int (iI y_5)]) := by
        intro y_5 hy_5 hf H_4 locs_4 hP_4 hD_4 hS_4 ls hl
        clear hS hD hP
        replace hf := (congrFun hK_6 y_5).symm.trans hf
        clear hK_6
        exact ex_W (fun _ h => ex_mq h) (W.iret (v := iI y_5) hx hb hr (fun t ht hW => ⟨⟨_, ozr hf ⟨hy_5, rfl, rfl⟩, by rw [ht]; exact hP_4, hD_4⟩, hS_4.F ht⟩) hS_4.2.2 d_Op_width_32)
      clear hK_6
      refine jpE hf (fun K_8 hK_8 hf9 => ?_)
      replace hf := hf9
      clear hf9
      have hJK_8 : ∀ (y_7 : Unit), True → K_8 y_7 = R9 → ∀ (H : Heap) (locs : List Loc), va_P G classes [] H → va_D A [] → va_S A s.heap H locs → ∀ (ls : Array Slot), lv_has ls 1 [(0, .int (iI v_op))] → W p l e (headSpec (wx y_Op_width b_Op_width 1 (some .int)) { frames := 0, cells := 0, slots := 0, locals := 0 }).room s m ([.int (iI v_op)] : List Value).toArray below meth c H locs 0 0 (MX below (XQ G classes A (fun o w1 => ozp R9 (fun x9 => (R32 x9) ∧ o = .returned (some (.int (iI x9))) ∧ w1 = []) (fun _ => False))) ([.int (iI v_op)] : List Value).toArray s 0 0 A) (F0 m 27 ls []) := by
        intro y_7 hy_7 hf H_5 locs_5 hP_5 hD_5 hS_5 ls hl
        clear hS hD hP
        replace hf := (congrFun hK_8 y_7).symm.trans hf
        clear hK_8
        refine lv_iconst (v := iI 4) hx hb d_Op_width_27 (by decide) ?_
        refine lv_goto (tgt := 32) hx hb d_Op_width_28 (by decide) ?_
        exact hJK_6 4 (show R32 (4) by decide) hf _ _ hP_5 hD_5 hS_5 _ (lv_sub hl [0] rfl)
      clear hK_8
      refine lv_icmp_eq (tgt := 27) hx hb d_Op_width_18 (by decide) (fun c_9 => ?_) (fun c_9 => ?_)
      · have c_9 := ((zv_eq (iI_t hv_op) (iI_t (show R32 (40) by decide)))).mp c_9
        replace hf := ifp c_9 hf
        exact hJK_8 () trivial hf _ _ hP hD hS _ (lv_sub hl [0] rfl)
      · have c_9 := (fun q9 => c_9 (((zv_eq (iI_t hv_op) (iI_t (show R32 (40) by decide)))).mpr q9))
        replace hf := ifn c_9 hf
        refine lv_iload_n hx hb d_Op_width_21 rfl (lv_at hl 0 rfl) ?_
        refine lv_bipush (v := iI 54) hx hb d_Op_width_22 (by decide) ?_
        refine lv_icmp_ne (tgt := 31) hx hb d_Op_width_24 (by decide) (fun c_10 => ?_) (fun c_10 => ?_)
        · have c_10 := (fun q9 => c_10 (((zv_eq (iI_t hv_op) (iI_t (show R32 (54) by decide)))).mpr q9))
          replace hf := ifn c_10 hf
          refine lv_iconst (v := iI 1) hx hb d_Op_width_31 (by decide) ?_
          exact hJK_6 1 (show R32 (1) by decide) hf _ _ hP hD hS _ (lv_sub hl [0] rfl)
        · have c_10 := ((zv_eq (iI_t hv_op) (iI_t (show R32 (54) by decide)))).mp c_10
          replace hf := ifp c_10 hf
          exact hJK_8 () trivial hf _ _ hP hD hS _ (lv_sub hl [0] rfl)
    · have c_4 := ((zv_eq (iI_t hv_op) (iI_t (show R32 (55) by decide)))).mp c_4
      replace hf := ifp c_4 hf
      exact hJK_2 () trivial hf _ _ hP hD hS _ (lv_sub hl [0] rfl)
set_option maxHeartbeats 8000000 in
set_option maxRecDepth 100000 in
theorem k_Op_isLoad (l : Launch) (htr : l.stackTraces = false) (G : va_G) (cB cI cJ cZ cG : ClassId) (v_op : Int) (hv_op : R32 v_op) (R9 : Out Empty (Bool)) (hf : f_Op_isLoad v_op = R9) (hnb : R9 ≠ .bad) (sz : Nat) : MetX l y_Op_isLoad (wx y_Op_isLoad b_Op_isLoad 1 (some .boolean)) { frames := 0, cells := 0, slots := 0, locals := 0 } (XP G classes (xtys cB cI cJ cZ cG) xE [.int (iI v_op)] [] sz) (XQ G classes (va_A [] sz) (fun o w1 => ozp R9 (fun x9 => (True) ∧ o = .returned (some (.int (bI x9))) ∧ w1 = []) (fun _ => False))) 0 0 (va_A [] sz) := by
  refine ex_ofW (cc := b_Op_isLoad) (maxL := 1) (ret := (some .boolean)) (by decide) rfl ?_
  intro p e s m args below meth c s₁ B hml hno hv
  obtain ⟨rfl, hsz, hP, hK, hD0, hE⟩ := hv
  have hx := B.exec
  have hb := B.bytes
  have hr := B.returns
  have hts : ∀ w ∈ lw_good, w.before _ s = true := fun w h => atoms_spec (ws := wx y_Op_isLoad b_Op_isLoad 1 (some .boolean)) B.pre w (List.mem_cons_of_mem _ h)
  have hown : s.vm.findClass R_Op = some m.cls := findClass_of_methodNamed B.named
  have hlocks := B.notSynchronized
  subst hsz
  have hNS := xx_nostat hP
  have hD := hD0.self (sz := s.heap.size)
  generalize hAe : va_A [] s.heap.size = A at hD hE hNS ⊢
  have hA : ∀ q : Nat, s.heap.size ≤ q → A q := fun q h => by rw [← hAe]; exact Or.inr h
  have hS : va_S A s.heap s.heap [] := va_S.rf
  have hl := lv_entry ([.int (iI v_op)]) (n := 1) (Nat.le_of_ble_eq_true rfl)
  rw [lg_entry_eq]
  generalize (lg_sl ([.int (iI v_op)]) ++ List.replicate (1 - (lg_sl ([.int (iI v_op)])).length) Slot.unset).toArray = ls at hl ⊢
  have hl : lv_has ls 1 [(0, .int (iI v_op))] := hl
  unfold f_Op_isLoad at hf
  refine lv_iload_n hx hb d_Op_isLoad_0 rfl (lv_at hl 0 rfl) ?_
  refine lv_bipush (v := iI 40) hx hb d_Op_isLoad_1 (by decide) ?_
  refine jpE hf (fun K_2 hK_2 hf9 => ?_)
  replace hf := hf9
  clear hf9
  have hJK_2 : ∀ (y_1 : Bool), True → K_2 y_1 = R9 → ∀ (H : Heap) (locs : List Loc), va_P G classes [] H → va_D A [] → va_S A s.heap H locs → ∀ (ls : Array Slot), lv_has ls 1 [(0, .int (iI v_op))] → W p l e (headSpec (wx y_Op_isLoad b_Op_isLoad 1 (some .boolean)) { frames := 0, cells := 0, slots := 0, locals := 0 }).room s m ([.int (iI v_op)] : List Value).toArray below meth c H locs 0 0 (MX below (XQ G classes A (fun o w1 => ozp R9 (fun x9 => (True) ∧ o = .returned (some (.int (bI x9))) ∧ w1 = []) (fun _ => False))) ([.int (iI v_op)] : List Value).toArray s 0 0 A) (F0 m 17 ls [.int (bI y_1)]) := by
    intro y_1 hy_1 hf H_1 locs_1 hP_1 hD_1 hS_1 ls hl
    clear hS hD hP
    replace hf := (congrFun hK_2 y_1).symm.trans hf
    clear hK_2
    exact ex_W (fun _ h => ex_mq h) (W.zret (v := bI y_1) hx hb hr (bI_nar _) (fun t ht hW => ⟨⟨_, ozr hf ⟨trivial, rfl, rfl⟩, by rw [ht]; exact hP_1, hD_1⟩, hS_1.F ht⟩) hS_1.2.2 d_Op_isLoad_17)
  clear hK_2
  refine jpE hf (fun K_4 hK_4 hf9 => ?_)
  replace hf := hf9
  clear hf9
  have hJK_4 : ∀ (y_3 : Unit), True → K_4 y_3 = R9 → ∀ (H : Heap) (locs : List Loc), va_P G classes [] H → va_D A [] → va_S A s.heap H locs → ∀ (ls : Array Slot), lv_has ls 1 [(0, .int (iI v_op))] → W p l e (headSpec (wx y_Op_isLoad b_Op_isLoad 1 (some .boolean)) { frames := 0, cells := 0, slots := 0, locals := 0 }).room s m ([.int (iI v_op)] : List Value).toArray below meth c H locs 0 0 (MX below (XQ G classes A (fun o w1 => ozp R9 (fun x9 => (True) ∧ o = .returned (some (.int (bI x9))) ∧ w1 = []) (fun _ => False))) ([.int (iI v_op)] : List Value).toArray s 0 0 A) (F0 m 16 ls []) := by
    intro y_3 hy_3 hf H_2 locs_2 hP_2 hD_2 hS_2 ls hl
    clear hS hD hP
    replace hf := (congrFun hK_4 y_3).symm.trans hf
    clear hK_4
    refine lv_iconst (v := iI 0) hx hb d_Op_isLoad_16 (by decide) ?_
    refine W.eq (g2 := F0 m 17 ls [.int (bI false)]) (by rfl) ?_
    exact hJK_2 false trivial hf _ _ hP_2 hD_2 hS_2 _ (lv_sub hl [0] rfl)
  clear hK_4
  refine lv_icmp_lt (tgt := 16) hx hb d_Op_isLoad_3 (by decide) (fun c_5 => ?_) (fun c_5 => ?_)
  · have c_5 := ((zv_lt (iI_t hv_op) (iI_t (show R32 (40) by decide)))).mp c_5
    replace hf := ifp c_5 hf
    exact hJK_4 () trivial hf _ _ hP hD hS _ (lv_sub hl [0] rfl)
  · have c_5 := (fun q9 => c_5 (((zv_lt (iI_t hv_op) (iI_t (show R32 (40) by decide)))).mpr q9))
    replace hf := ifn c_5 hf
    refine lv_iload_n hx hb d_Op_isLoad_6 rfl (lv_at hl 0 rfl) ?_
    refine lv_bipush (v := iI 45) hx hb d_Op_isLoad_7 (by decide) ?_
    refine lv_icmp_gt (tgt := 16) hx hb d_Op_isLoad_9 (by decide) (fun c_6 => ?_) (fun c_6 => ?_)
    · have c_6 := ((zv_lt (iI_t (show R32 (45) by decide)) (iI_t hv_op))).mp c_6
      replace hf := ifp c_6 hf
      exact hJK_4 () trivial hf _ _ hP hD hS _ (lv_sub hl [0] rfl)
    · have c_6 := (fun q9 => c_6 (((zv_lt (iI_t (show R32 (45) by decide)) (iI_t hv_op))).mpr q9))
      replace hf := ifn c_6 hf
      refine lv_iconst (v := iI 1) hx hb d_Op_isLoad_12 (by decide) ?_
      refine lv_goto (tgt := 17) hx hb d_Op_isLoad_13 (by decide) ?_
      refine W.eq (g2 := F0 m 17 ls [.int (bI true)]) (by rfl) ?_
      exact hJK_2 true trivial hf _ _ hP hD hS _ (lv_sub hl [0] rfl)
set_option maxHeartbeats 8000000 in
set_option maxRecDepth 100000 in
theorem k_Op_isKnown (l : Launch) (htr : l.stackTraces = false) (G : va_G) (cB cI cJ cZ cG : ClassId) (v_op : Int) (hv_op : R32 v_op) (fu : Nat) (R9 : Out Empty (Bool)) (hf : f_Op_isKnown fu v_op = R9) (hnb : R9 ≠ .bad) (sz : Nat) : MetX l y_Op_isKnown (wx y_Op_isKnown b_Op_isKnown 2 (some .boolean)) { frames := 0, cells := 0, slots := 0, locals := 0 } (XP G classes (xtys cB cI cJ cZ cG) xE [.int (iI v_op)] [] sz) (XQ G classes (va_A [] sz) (fun o w1 => ozp R9 (fun x9 => (True) ∧ o = .returned (some (.int (bI x9))) ∧ w1 = []) (fun _ => False))) 0 0 (va_A [] sz) := by
  refine ex_ofW (cc := b_Op_isKnown) (maxL := 2) (ret := (some .boolean)) (by decide) rfl ?_
  intro p e s m args below meth c s₁ B hml hno hv
  obtain ⟨rfl, hsz, hP, hK, hD0, hE⟩ := hv
  have hx := B.exec
  have hb := B.bytes
  have hr := B.returns
  have hts : ∀ w ∈ lw_good, w.before _ s = true := fun w h => atoms_spec (ws := wx y_Op_isKnown b_Op_isKnown 2 (some .boolean)) B.pre w (List.mem_cons_of_mem _ h)
  have hown : s.vm.findClass R_Op = some m.cls := findClass_of_methodNamed B.named
  have hlocks := B.notSynchronized
  subst hsz
  have hNS := xx_nostat hP
  have hD := hD0.self (sz := s.heap.size)
  generalize hAe : va_A [] s.heap.size = A at hD hE hNS ⊢
  have hA : ∀ q : Nat, s.heap.size ≤ q → A q := fun q h => by rw [← hAe]; exact Or.inr h
  have hS : va_S A s.heap s.heap [] := va_S.rf
  have hl := lv_entry ([.int (iI v_op)]) (n := 2) (Nat.le_of_ble_eq_true rfl)
  rw [lg_entry_eq]
  generalize (lg_sl ([.int (iI v_op)]) ++ List.replicate (2 - (lg_sl ([.int (iI v_op)])).length) Slot.unset).toArray = ls at hl ⊢
  have hl : lv_has ls 2 [(0, .int (iI v_op))] := hl
  unfold f_Op_isKnown at hf
  refine lv_iconst (v := iI 0) hx hb d_Op_isKnown_0 (by decide) ?_
  refine lv_istore_n (lv' := [(1, .int (iI 0)), (0, .int (iI v_op))]) hx hb d_Op_isKnown_1 rfl hl (by decide) rfl (fun ls hl => ?_)
  have loop_2 : ∀ (n_1 : Nat) (w_k_3 : Int), R32 w_k_3 → L2_Op_isKnown fu v_op n_1 w_k_3 = R9 → ∀ (H : Heap) (locs : List Loc), va_P G classes [] H → va_D A [] → va_S A s.heap H locs → ∀ (ls : Array Slot), lv_has ls 2 [(0, .int (iI v_op)), (1, .int (iI w_k_3))] → W p l e (headSpec (wx y_Op_isKnown b_Op_isKnown 2 (some .boolean)) { frames := 0, cells := 0, slots := 0, locals := 0 }).room s m ([.int (iI v_op)] : List Value).toArray below meth c H locs 0 0 (MX below (XQ G classes A (fun o w1 => ozp R9 (fun x9 => (True) ∧ o = .returned (some (.int (bI x9))) ∧ w1 = []) (fun _ => False))) ([.int (iI v_op)] : List Value).toArray s 0 0 A) (F0 m 2 ls []) := by
    intro n_1
    induction n_1 with
    | zero => intro w_k_3  hw_k_3 hf; exact absurd hf.symm hnb
    | succ n_1 ih_2 =>
      intro w_k_3  hw_k_3 hf H_2 locs_2 hP_2 hD_2 hS_2 ls hl
      clear hS hD hP
      rw [L2_Op_isKnown.eq_2] at hf
      refine lv_iload_n hx hb d_Op_isKnown_2 rfl (lv_at hl 1 rfl) ?_
      refine lv_iconst (v := iI 1) hx hb d_Op_isKnown_3 (by decide) ?_
      refine lv_iadd hx hb d_Op_isKnown_4 ?_
      refine lv_topi (fun x9 e9 => ?_)
      obtain rfl : x9 = iI (w_k_3 + 1) := e9.trans (iI_add _ _)
      replace hf := grd hnb hf
      obtain ⟨g_4, hf⟩ := hf
      obtain ⟨T_KNOWN, hZT_KNOWN, hT_KNOWN⟩ := hE.2.2.2.2.2.2.1
      refine va_gets hx hb hZT_KNOWN hS_2 hown (hts _ m_712) (fun _ h9 => h9) d_Op_isKnown_5 ?_
      refine va_tlen (v := iI 26) hx hb hT_KNOWN hS_2 (by decide) d_Op_isKnown_8 ?_
      refine lv_icmp_ge (tgt := 40) hx hb d_Op_isKnown_9 (by decide) (fun c_5 => ?_) (fun c_5 => ?_)
      · have c_5 := ((zv_le (iI_t (show R32 (26) by decide)) (iI_t g_4))).mp c_5
        replace hf := ifp c_5 hf
        refine lv_iconst (v := iI 0) hx hb d_Op_isKnown_40 (by decide) ?_
        refine W.eq (g2 := F0 m 41 ls [.int (bI false)]) (by rfl) ?_
        exact ex_W (fun _ h => ex_mq h) (W.zret (v := bI false) hx hb hr (bI_nar _) (fun t ht hW => ⟨⟨_, ozr hf ⟨trivial, rfl, rfl⟩, by rw [ht]; exact hP_2, hD_2⟩, hS_2.F ht⟩) hS_2.2.2 d_Op_isKnown_41)
      · have c_5 := (fun q9 => c_5 (((zv_le (iI_t (show R32 (26) by decide)) (iI_t g_4))).mpr q9))
        replace hf := ifn c_5 hf
        refine lv_iload_n hx hb d_Op_isKnown_12 rfl (lv_at hl 0 rfl) ?_
        refine va_gets hx hb hZT_KNOWN hS_2 hown (hts _ m_712) (fun _ h9 => h9) d_Op_isKnown_13 ?_
        refine lv_iload_n hx hb d_Op_isKnown_16 rfl (lv_at hl 1 rfl) ?_
        replace hf := grd hnb hf
        obtain ⟨g_6, hf⟩ := hf
        refine va_ti (v := .int (xKnown w_k_3.toNat)) hx hb hT_KNOWN hS_2 (vp_in_iI hw_k_3 g_6) (by rw [iI_clamp hw_k_3]) d_Op_isKnown_17 ?_
        refine jpE hf (fun K_8 hK_8 hf9 => ?_)
        replace hf := hf9
        clear hf9
        have hJK_8 : ∀ (y_7 : Unit), True → K_8 y_7 = R9 → ∀ (H_2 : Heap) (locs_2 : List Loc), va_P G classes [] H_2 → va_D A [] → va_S A s.heap H_2 locs_2 → ∀ (ls : Array Slot), lv_has ls 2 [(0, .int (iI v_op)), (1, .int (iI w_k_3))] → W p l e (headSpec (wx y_Op_isKnown b_Op_isKnown 2 (some .boolean)) { frames := 0, cells := 0, slots := 0, locals := 0 }).room s m ([.int (iI v_op)] : List Value).toArray below meth c H_2 locs_2 0 0 (MX below (XQ G classes A (fun o w1 => ozp R9 (fun x9 => (True) ∧ o = .returned (some (.int (bI x9))) ∧ w1 = []) (fun _ => False))) ([.int (iI v_op)] : List Value).toArray s 0 0 A) (F0 m 34 ls []) := by
          intro y_7 hy_7 hf H_3 locs_3 hP_3 hD_3 hS_3 ls hl
          clear hS_2 hD_2 hP_2
          replace hf := (congrFun hK_8 y_7).symm.trans hf
          clear hK_8
          replace hf := grd hnb hf
          obtain ⟨g_9, hf⟩ := hf
          refine lv_iinc (v := iI (w_k_3 + 2)) (lv' := [(1, .int (iI (w_k_3 + 2))), (0, .int (iI v_op))]) hx hb d_Op_isKnown_34 hl (k := 1) rfl (iI_add _ 2) (by decide) rfl (fun ls hl => ?_)
          refine lv_goto (tgt := 2) hx hb d_Op_isKnown_37 (by decide) ?_
          exact ih_2 (w_k_3 + 2) g_9 hf _ _ hP_3 hD_3 hS_3 _ (lv_sub hl [1, 0] rfl)
        clear hK_8
        refine lv_icmp_lt (tgt := 34) hx hb d_Op_isKnown_18 (by decide) (fun c_10 => ?_) (fun c_10 => ?_)
        · have c_10 := ((zv_lt (iI_t hv_op) rfl)).mp c_10
          replace hf := ifp c_10 hf
          exact hJK_8 () trivial hf _ _ hP_2 hD_2 hS_2 _ (lv_sub hl [0, 1] rfl)
        · have c_10 := (fun q9 => c_10 (((zv_lt (iI_t hv_op) rfl)).mpr q9))
          replace hf := ifn c_10 hf
          refine lv_iload_n hx hb d_Op_isKnown_21 rfl (lv_at hl 0 rfl) ?_
          refine va_gets hx hb hZT_KNOWN hS_2 hown (hts _ m_712) (fun _ h9 => h9) d_Op_isKnown_22 ?_
          refine lv_iload_n hx hb d_Op_isKnown_25 rfl (lv_at hl 1 rfl) ?_
          refine lv_iconst (v := iI 1) hx hb d_Op_isKnown_26 (by decide) ?_
          refine lv_iadd hx hb d_Op_isKnown_27 ?_
          refine lv_topi (fun x9 e9 => ?_)
          obtain rfl : x9 = iI (w_k_3 + 1) := e9.trans (iI_add _ _)
          replace hf := grd hnb hf
          obtain ⟨g_11, hf⟩ := hf
          replace hf := grd hnb hf
          obtain ⟨g_12, hf⟩ := hf
          refine va_ti (v := .int (xKnown (w_k_3 + 1).toNat)) hx hb hT_KNOWN hS_2 (vp_in_iI g_11 g_12) (by rw [iI_clamp g_11]) d_Op_isKnown_28 ?_
          refine lv_icmp_gt (tgt := 34) hx hb d_Op_isKnown_29 (by decide) (fun c_13 => ?_) (fun c_13 => ?_)
          · have c_13 := ((zv_lt rfl (iI_t hv_op))).mp c_13
            replace hf := ifp c_13 hf
            exact hJK_8 () trivial hf _ _ hP_2 hD_2 hS_2 _ (lv_sub hl [0, 1] rfl)
          · have c_13 := (fun q9 => c_13 (((zv_lt rfl (iI_t hv_op))).mpr q9))
            replace hf := ifn c_13 hf
            refine lv_iconst (v := iI 1) hx hb d_Op_isKnown_32 (by decide) ?_
            refine W.eq (g2 := F0 m 33 ls [.int (bI true)]) (by rfl) ?_
            exact ex_W (fun _ h => ex_mq h) (W.zret (v := bI true) hx hb hr (bI_nar _) (fun t ht hW => ⟨⟨_, ozr hf ⟨trivial, rfl, rfl⟩, by rw [ht]; exact hP_2, hD_2⟩, hS_2.F ht⟩) hS_2.2.2 d_Op_isKnown_33)
  exact loop_2 fu 0 (show R32 (0) by decide) hf _ _ hP hD hS _ (lv_sub hl [1, 0] rfl)
set_option maxHeartbeats 8000000 in
set_option maxRecDepth 100000 in
theorem k_Co_clear (l : Launch) (htr : l.stackTraces = false) (G : va_G) (cB cI cJ cZ cG : ClassId) (aCo : Nat) (aCo_ops : Nat) (aCo_values : Nat) (aCo_extras : Nat) (aCo_ends : Nat) (aCo_elses : Nat) (aCo_heights : Nat) (aCo_targets : Nat) (aCo_labels : Nat) (aCo_labelTargets : Nat) (zCo : KCo) (hzCo : KCo.Ok zCo) (R9 : Out Empty (KCo)) (hf : f_Co_clear zCo = R9) (hnb : R9 ≠ .bad) (sz : Nat) : MetX l y_Co_clear (wx y_Co_clear b_Co_clear 1 none) { frames := 0, cells := 0, slots := 0, locals := 0 } (XP G classes (xtys cB cI cJ cZ cG) xE [.ref aCo] [(aCo, .inr (9, [.int (iI zCo.size), .ref aCo_ops, .ref aCo_values, .ref aCo_extras, .ref aCo_ends, .ref aCo_elses, .ref aCo_heights, .ref aCo_targets, .int (iI zCo.labelCount), .ref aCo_labels, .ref aCo_labelTargets])), (aCo_ops, .inl (cI, 2000, .inl (fun k9 => iI (zCo.ops k9)))), (aCo_values, .inl (cJ, 2000, .inr (.inl zCo.values))), (aCo_extras, .inl (cI, 2000, .inl (fun k9 => iI (zCo.extras k9)))), (aCo_ends, .inl (cI, 2000, .inl (fun k9 => iI (zCo.ends k9)))), (aCo_elses, .inl (cI, 2000, .inl (fun k9 => iI (zCo.elses k9)))), (aCo_labels, .inl (cI, 2000, .inl (fun k9 => iI (zCo.labels k9))))] sz) (XQ G classes (va_A [(aCo, .inr (9, [.int (iI zCo.size), .ref aCo_ops, .ref aCo_values, .ref aCo_extras, .ref aCo_ends, .ref aCo_elses, .ref aCo_heights, .ref aCo_targets, .int (iI zCo.labelCount), .ref aCo_labels, .ref aCo_labelTargets])), (aCo_ops, .inl (cI, 2000, .inl (fun k9 => iI (zCo.ops k9)))), (aCo_values, .inl (cJ, 2000, .inr (.inl zCo.values))), (aCo_extras, .inl (cI, 2000, .inl (fun k9 => iI (zCo.extras k9)))), (aCo_ends, .inl (cI, 2000, .inl (fun k9 => iI (zCo.ends k9)))), (aCo_elses, .inl (cI, 2000, .inl (fun k9 => iI (zCo.elses k9)))), (aCo_labels, .inl (cI, 2000, .inl (fun k9 => iI (zCo.labels k9))))] sz) (fun o w1 => ozp R9 (fun x9 => (KCo.Ok x9) ∧ o = .returned none ∧ w1 = [(aCo, .inr (9, [.int (iI x9.size), .ref aCo_ops, .ref aCo_values, .ref aCo_extras, .ref aCo_ends, .ref aCo_elses, .ref aCo_heights, .ref aCo_targets, .int (iI x9.labelCount), .ref aCo_labels, .ref aCo_labelTargets])), (aCo_ops, .inl (cI, 2000, .inl (fun k9 => iI (x9.ops k9)))), (aCo_values, .inl (cJ, 2000, .inr (.inl x9.values))), (aCo_extras, .inl (cI, 2000, .inl (fun k9 => iI (x9.extras k9)))), (aCo_ends, .inl (cI, 2000, .inl (fun k9 => iI (x9.ends k9)))), (aCo_elses, .inl (cI, 2000, .inl (fun k9 => iI (x9.elses k9)))), (aCo_labels, .inl (cI, 2000, .inl (fun k9 => iI (x9.labels k9))))]) (fun _ => False))) 0 0 (va_A [(aCo, .inr (9, [.int (iI zCo.size), .ref aCo_ops, .ref aCo_values, .ref aCo_extras, .ref aCo_ends, .ref aCo_elses, .ref aCo_heights, .ref aCo_targets, .int (iI zCo.labelCount), .ref aCo_labels, .ref aCo_labelTargets])), (aCo_ops, .inl (cI, 2000, .inl (fun k9 => iI (zCo.ops k9)))), (aCo_values, .inl (cJ, 2000, .inr (.inl zCo.values))), (aCo_extras, .inl (cI, 2000, .inl (fun k9 => iI (zCo.extras k9)))), (aCo_ends, .inl (cI, 2000, .inl (fun k9 => iI (zCo.ends k9)))), (aCo_elses, .inl (cI, 2000, .inl (fun k9 => iI (zCo.elses k9)))), (aCo_labels, .inl (cI, 2000, .inl (fun k9 => iI (zCo.labels k9))))] sz) := by
  refine ex_ofW (cc := b_Co_clear) (maxL := 1) (ret := none) (by decide) rfl ?_
  intro p e s m args below meth c s₁ B hml hno hv
  obtain ⟨rfl, hsz, hP, hK, hD0, hE⟩ := hv
  have hx := B.exec
  have hb := B.bytes
  have hr := B.returns
  have hts : ∀ w ∈ lw_good, w.before _ s = true := fun w h => atoms_spec (ws := wx y_Co_clear b_Co_clear 1 none) B.pre w (List.mem_cons_of_mem _ h)
  have hown : s.vm.findClass R_Co = some m.cls := findClass_of_methodNamed B.named
  have hlocks := B.notSynchronized
  subst hsz
  have hNS := xx_nostat hP
  have hD := hD0.self (sz := s.heap.size)
  generalize hAe : va_A [(aCo, .inr (9, [.int (iI zCo.size), .ref aCo_ops, .ref aCo_values, .ref aCo_extras, .ref aCo_ends, .ref aCo_elses, .ref aCo_heights, .ref aCo_targets, .int (iI zCo.labelCount), .ref aCo_labels, .ref aCo_labelTargets])), (aCo_ops, .inl (cI, 2000, .inl (fun k9 => iI (zCo.ops k9)))), (aCo_values, .inl (cJ, 2000, .inr (.inl zCo.values))), (aCo_extras, .inl (cI, 2000, .inl (fun k9 => iI (zCo.extras k9)))), (aCo_ends, .inl (cI, 2000, .inl (fun k9 => iI (zCo.ends k9)))), (aCo_elses, .inl (cI, 2000, .inl (fun k9 => iI (zCo.elses k9)))), (aCo_labels, .inl (cI, 2000, .inl (fun k9 => iI (zCo.labels k9))))] s.heap.size = A at hD hE hNS ⊢
  have hA : ∀ q : Nat, s.heap.size ≤ q → A q := fun q h => by rw [← hAe]; exact Or.inr h
  have hS : va_S A s.heap s.heap [] := va_S.rf
  have hl := lv_entry ([.ref aCo]) (n := 1) (Nat.le_of_ble_eq_true rfl)
  rw [lg_entry_eq]
  generalize (lg_sl ([.ref aCo]) ++ List.replicate (1 - (lg_sl ([.ref aCo])).length) Slot.unset).toArray = ls at hl ⊢
  have hl : lv_has ls 1 [(0, .ref aCo)] := hl
  unfold f_Co_clear at hf
  refine lv_aload_n hx hb d_Co_clear_0 rfl (lv_at hl 0 rfl) ?_
  refine lv_iconst (v := iI 0) hx hb d_Co_clear_1 (by decide) ?_
  refine va_put (D := G) (ci := 9) (v := .int (iI 0)) (ty := .int) (C := R_Co) (T := F_Co) (N := 11) hx hb hts i_Co t_Co t_Co_ok n_Co hown hK hP hD hS 0 rfl rfl 0 (by decide) (hts _ m_256) (fun _ h9 => h9) rfl (by decide +kernel) rfl rfl (Nat.le_of_ble_eq_true rfl) d_Co_clear_2 (fun H_1 locs_1 hP_1 hD_1 hS_1 => ?_)
  clear hS hD hP
  replace hP_1 : va_P G classes [(aCo, .inr (9, [.int (iI 0), .ref aCo_ops, .ref aCo_values, .ref aCo_extras, .ref aCo_ends, .ref aCo_elses, .ref aCo_heights, .ref aCo_targets, .int (iI zCo.labelCount), .ref aCo_labels, .ref aCo_labelTargets])), (aCo_ops, .inl (cI, 2000, .inl (fun k9 => iI (zCo.ops k9)))), (aCo_values, .inl (cJ, 2000, .inr (.inl zCo.values))), (aCo_extras, .inl (cI, 2000, .inl (fun k9 => iI (zCo.extras k9)))), (aCo_ends, .inl (cI, 2000, .inl (fun k9 => iI (zCo.ends k9)))), (aCo_elses, .inl (cI, 2000, .inl (fun k9 => iI (zCo.elses k9)))), (aCo_labels, .inl (cI, 2000, .inl (fun k9 => iI (zCo.labels k9))))] H_1 := hP_1
  replace hD_1 : va_D A [(aCo, .inr (9, [.int (iI 0), .ref aCo_ops, .ref aCo_values, .ref aCo_extras, .ref aCo_ends, .ref aCo_elses, .ref aCo_heights, .ref aCo_targets, .int (iI zCo.labelCount), .ref aCo_labels, .ref aCo_labelTargets])), (aCo_ops, .inl (cI, 2000, .inl (fun k9 => iI (zCo.ops k9)))), (aCo_values, .inl (cJ, 2000, .inr (.inl zCo.values))), (aCo_extras, .inl (cI, 2000, .inl (fun k9 => iI (zCo.extras k9)))), (aCo_ends, .inl (cI, 2000, .inl (fun k9 => iI (zCo.ends k9)))), (aCo_elses, .inl (cI, 2000, .inl (fun k9 => iI (zCo.elses k9)))), (aCo_labels, .inl (cI, 2000, .inl (fun k9 => iI (zCo.labels k9))))] := hD_1
  refine lv_aload_n hx hb d_Co_clear_5 rfl (lv_at hl 0 rfl) ?_
  refine lv_iconst (v := iI 0) hx hb d_Co_clear_6 (by decide) ?_
  refine va_put (D := G) (ci := 9) (v := .int (iI 0)) (ty := .int) (C := R_Co) (T := F_Co) (N := 11) hx hb hts i_Co t_Co t_Co_ok n_Co hown hK hP_1 hD_1 hS_1 0 rfl rfl 8 (by decide) (hts _ m_284) (fun _ h9 => h9) rfl (by decide +kernel) rfl rfl (Nat.le_of_ble_eq_true rfl) d_Co_clear_7 (fun H_2 locs_2 hP_2 hD_2 hS_2 => ?_)
  clear hS_1 hD_1 hP_1
  replace hP_2 : va_P G classes [(aCo, .inr (9, [.int (iI 0), .ref aCo_ops, .ref aCo_values, .ref aCo_extras, .ref aCo_ends, .ref aCo_elses, .ref aCo_heights, .ref aCo_targets, .int (iI 0), .ref aCo_labels, .ref aCo_labelTargets])), (aCo_ops, .inl (cI, 2000, .inl (fun k9 => iI (zCo.ops k9)))), (aCo_values, .inl (cJ, 2000, .inr (.inl zCo.values))), (aCo_extras, .inl (cI, 2000, .inl (fun k9 => iI (zCo.extras k9)))), (aCo_ends, .inl (cI, 2000, .inl (fun k9 => iI (zCo.ends k9)))), (aCo_elses, .inl (cI, 2000, .inl (fun k9 => iI (zCo.elses k9)))), (aCo_labels, .inl (cI, 2000, .inl (fun k9 => iI (zCo.labels k9))))] H_2 := hP_2
  replace hD_2 : va_D A [(aCo, .inr (9, [.int (iI 0), .ref aCo_ops, .ref aCo_values, .ref aCo_extras, .ref aCo_ends, .ref aCo_elses, .ref aCo_heights, .ref aCo_targets, .int (iI 0), .ref aCo_labels, .ref aCo_labelTargets])), (aCo_ops, .inl (cI, 2000, .inl (fun k9 => iI (zCo.ops k9)))), (aCo_values, .inl (cJ, 2000, .inr (.inl zCo.values))), (aCo_extras, .inl (cI, 2000, .inl (fun k9 => iI (zCo.extras k9)))), (aCo_ends, .inl (cI, 2000, .inl (fun k9 => iI (zCo.ends k9)))), (aCo_elses, .inl (cI, 2000, .inl (fun k9 => iI (zCo.elses k9)))), (aCo_labels, .inl (cI, 2000, .inl (fun k9 => iI (zCo.labels k9))))] := hD_2
  exact ex_W (fun _ h => ex_mq h) (W.vret hx hb hr (fun t ht hW => ⟨⟨_, ozr hf ⟨(KCo.Ok.mk (show R32 (0) by decide) hzCo.ops hzCo.extras hzCo.ends hzCo.elses (show R32 (0) by decide) hzCo.labels : KCo.Ok (KCo.mk 0 zCo.ops zCo.values zCo.extras zCo.ends zCo.elses 0 zCo.labels)), rfl, rfl⟩, by rw [ht]; exact hP_2, hD_2⟩, hS_2.F ht⟩) hS_2.2.2 d_Co_clear_10)
set_option maxHeartbeats 8000000 in
set_option maxRecDepth 100000 in
theorem k_Co_add (l : Launch) (htr : l.stackTraces = false) (G : va_G) (cB cI cJ cZ cG : ClassId) (aCo : Nat) (aCo_ops : Nat) (aCo_values : Nat) (aCo_extras : Nat) (aCo_ends : Nat) (aCo_elses : Nat) (aCo_heights : Nat) (aCo_targets : Nat) (aCo_labels : Nat) (aCo_labelTargets : Nat) (zCo : KCo) (zCt : KCt) (hzCo : KCo.Ok zCo) (hzCt : KCt.Ok zCt) (v_op : Int) (hv_op : R32 v_op) (R9 : Out Empty (KCo × KCt × Int)) (hf : f_Co_add zCo zCt v_op = R9) (hnb : R9 ≠ .bad) (sz : Nat) : MetX l y_Co_add (wx y_Co_add b_Co_add 3 (some .int)) { frames := 0, cells := 0, slots := 0, locals := 0 } (XP G classes (xtys cB cI cJ cZ cG) xE [.ref aCo, .int (iI v_op)] [(aCo, .inr (9, [.int (iI zCo.size), .ref aCo_ops, .ref aCo_values, .ref aCo_extras, .ref aCo_ends, .ref aCo_elses, .ref aCo_heights, .ref aCo_targets, .int (iI zCo.labelCount), .ref aCo_labels, .ref aCo_labelTargets])), (aCo_ops, .inl (cI, 2000, .inl (fun k9 => iI (zCo.ops k9)))), (aCo_values, .inl (cJ, 2000, .inr (.inl zCo.values))), (aCo_extras, .inl (cI, 2000, .inl (fun k9 => iI (zCo.extras k9)))), (aCo_ends, .inl (cI, 2000, .inl (fun k9 => iI (zCo.ends k9)))), (aCo_elses, .inl (cI, 2000, .inl (fun k9 => iI (zCo.elses k9)))), (aCo_heights, .inl (cI, 2000, .inl (fun k9 => iI (zCt.heights k9)))), (aCo_targets, .inl (cI, 2000, .inl (fun k9 => iI (zCt.targets k9)))), (aCo_labels, .inl (cI, 2000, .inl (fun k9 => iI (zCo.labels k9)))), (aCo_labelTargets, .inl (cI, 2000, .inl (fun k9 => iI (zCt.labelTargets k9))))] sz) (XQ G classes (va_A [(aCo, .inr (9, [.int (iI zCo.size), .ref aCo_ops, .ref aCo_values, .ref aCo_extras, .ref aCo_ends, .ref aCo_elses, .ref aCo_heights, .ref aCo_targets, .int (iI zCo.labelCount), .ref aCo_labels, .ref aCo_labelTargets])), (aCo_ops, .inl (cI, 2000, .inl (fun k9 => iI (zCo.ops k9)))), (aCo_values, .inl (cJ, 2000, .inr (.inl zCo.values))), (aCo_extras, .inl (cI, 2000, .inl (fun k9 => iI (zCo.extras k9)))), (aCo_ends, .inl (cI, 2000, .inl (fun k9 => iI (zCo.ends k9)))), (aCo_elses, .inl (cI, 2000, .inl (fun k9 => iI (zCo.elses k9)))), (aCo_heights, .inl (cI, 2000, .inl (fun k9 => iI (zCt.heights k9)))), (aCo_targets, .inl (cI, 2000, .inl (fun k9 => iI (zCt.targets k9)))), (aCo_labels, .inl (cI, 2000, .inl (fun k9 => iI (zCo.labels k9)))), (aCo_labelTargets, .inl (cI, 2000, .inl (fun k9 => iI (zCt.labelTargets k9))))] sz) (fun o w1 => ozp R9 (fun x9 => (KCo.Ok x9.1 ∧ KCt.Ok x9.2.1 ∧ R32 x9.2.2) ∧ o = .returned (some (.int (iI x9.2.2))) ∧ w1 = [(aCo, .inr (9, [.int (iI x9.1.size), .ref aCo_ops, .ref aCo_values, .ref aCo_extras, .ref aCo_ends, .ref aCo_elses, .ref aCo_heights, .ref aCo_targets, .int (iI x9.1.labelCount), .ref aCo_labels, .ref aCo_labelTargets])), (aCo_ops, .inl (cI, 2000, .inl (fun k9 => iI (x9.1.ops k9)))), (aCo_values, .inl (cJ, 2000, .inr (.inl x9.1.values))), (aCo_extras, .inl (cI, 2000, .inl (fun k9 => iI (x9.1.extras k9)))), (aCo_ends, .inl (cI, 2000, .inl (fun k9 => iI (x9.1.ends k9)))), (aCo_elses, .inl (cI, 2000, .inl (fun k9 => iI (x9.1.elses k9)))), (aCo_heights, .inl (cI, 2000, .inl (fun k9 => iI (x9.2.1.heights k9)))), (aCo_targets, .inl (cI, 2000, .inl (fun k9 => iI (x9.2.1.targets k9)))), (aCo_labels, .inl (cI, 2000, .inl (fun k9 => iI (x9.1.labels k9)))), (aCo_labelTargets, .inl (cI, 2000, .inl (fun k9 => iI (x9.2.1.labelTargets k9))))]) (fun _ => False))) 0 0 (va_A [(aCo, .inr (9, [.int (iI zCo.size), .ref aCo_ops, .ref aCo_values, .ref aCo_extras, .ref aCo_ends, .ref aCo_elses, .ref aCo_heights, .ref aCo_targets, .int (iI zCo.labelCount), .ref aCo_labels, .ref aCo_labelTargets])), (aCo_ops, .inl (cI, 2000, .inl (fun k9 => iI (zCo.ops k9)))), (aCo_values, .inl (cJ, 2000, .inr (.inl zCo.values))), (aCo_extras, .inl (cI, 2000, .inl (fun k9 => iI (zCo.extras k9)))), (aCo_ends, .inl (cI, 2000, .inl (fun k9 => iI (zCo.ends k9)))), (aCo_elses, .inl (cI, 2000, .inl (fun k9 => iI (zCo.elses k9)))), (aCo_heights, .inl (cI, 2000, .inl (fun k9 => iI (zCt.heights k9)))), (aCo_targets, .inl (cI, 2000, .inl (fun k9 => iI (zCt.targets k9)))), (aCo_labels, .inl (cI, 2000, .inl (fun k9 => iI (zCo.labels k9)))), (aCo_labelTargets, .inl (cI, 2000, .inl (fun k9 => iI (zCt.labelTargets k9))))] sz) := by
  refine ex_ofW (cc := b_Co_add) (maxL := 3) (ret := (some .int)) (by decide) rfl ?_
  intro p e s m args below meth c s₁ B hml hno hv
  obtain ⟨rfl, hsz, hP, hK, hD0, hE⟩ := hv
  have hx := B.exec
  have hb := B.bytes
  have hr := B.returns
  have hts : ∀ w ∈ lw_good, w.before _ s = true := fun w h => atoms_spec (ws := wx y_Co_add b_Co_add 3 (some .int)) B.pre w (List.mem_cons_of_mem _ h)
  have hown : s.vm.findClass R_Co = some m.cls := findClass_of_methodNamed B.named
  have hlocks := B.notSynchronized
  subst hsz
  have hNS := xx_nostat hP
  have hD := hD0.self (sz := s.heap.size)
  generalize hAe : va_A [(aCo, .inr (9, [.int (iI zCo.size), .ref aCo_ops, .ref aCo_values, .ref aCo_extras, .ref aCo_ends, .ref aCo_elses, .ref aCo_heights, .ref aCo_targets, .int (iI zCo.labelCount), .ref aCo_labels, .ref aCo_labelTargets])), (aCo_ops, .inl (cI, 2000, .inl (fun k9 => iI (zCo.ops k9)))), (aCo_values, .inl (cJ, 2000, .inr (.inl zCo.values))), (aCo_extras, .inl (cI, 2000, .inl (fun k9 => iI (zCo.extras k9)))), (aCo_ends, .inl (cI, 2000, .inl (fun k9 => iI (zCo.ends k9)))), (aCo_elses, .inl (cI, 2000, .inl (fun k9 => iI (zCo.elses k9)))), (aCo_heights, .inl (cI, 2000, .inl (fun k9 => iI (zCt.heights k9)))), (aCo_targets, .inl (cI, 2000, .inl (fun k9 => iI (zCt.targets k9)))), (aCo_labels, .inl (cI, 2000, .inl (fun k9 => iI (zCo.labels k9)))), (aCo_labelTargets, .inl (cI, 2000, .inl (fun k9 => iI (zCt.labelTargets k9))))] s.heap.size = A at hD hE hNS ⊢
  have hA : ∀ q : Nat, s.heap.size ≤ q → A q := fun q h => by rw [← hAe]; exact Or.inr h
  have hS : va_S A s.heap s.heap [] := va_S.rf
  have hl := lv_entry ([.ref aCo, .int (iI v_op)]) (n := 3) (Nat.le_of_ble_eq_true rfl)
  rw [lg_entry_eq]
  generalize (lg_sl ([.ref aCo, .int (iI v_op)]) ++ List.replicate (3 - (lg_sl ([.ref aCo, .int (iI v_op)])).length) Slot.unset).toArray = ls at hl ⊢
  have hl : lv_has ls 3 [(0, .ref aCo), (1, .int (iI v_op))] := hl
  unfold f_Co_add at hf
  refine lv_aload_n hx hb d_Co_add_0 rfl (lv_at hl 0 rfl) ?_
  refine va_get (D := G) (ci := 9) (v := .int (iI zCo.size)) (C := R_Co) (T := F_Co) (N := 11) hx hb hts i_Co hown hK hP 0 rfl rfl 0 (by decide) (hts _ m_256) (fun _ h9 => h9) rfl d_Co_add_1 ?_
  refine lv_istore_n (lv' := [(2, .int (iI zCo.size)), (0, .ref aCo), (1, .int (iI v_op))]) hx hb d_Co_add_4 rfl hl (by decide) rfl (fun ls hl => ?_)
  refine lv_aload_n hx hb d_Co_add_5 rfl (lv_at hl 1 rfl) ?_
  refine va_get (D := G) (ci := 9) (v := .ref aCo_ops) (C := R_Co) (T := F_Co) (N := 11) hx hb hts i_Co hown hK hP 0 rfl rfl 1 (by decide) (hts _ m_259) (fun _ h9 => h9) rfl d_Co_add_6 ?_
  refine lv_iload_n hx hb d_Co_add_9 rfl (lv_at hl 0 rfl) ?_
  refine lv_iload_n hx hb d_Co_add_10 rfl (lv_at hl 2 rfl) ?_
  replace hf := grd hnb hf
  obtain ⟨g_1, hf⟩ := hf
  refine va_iast hx hb hK hP hD hS 1 1 rfl rfl (vp_in_iI hzCo.size g_1) d_Co_add_11 (fun H_1 locs_1 hP_1 hD_1 hS_1 => ?_)
  clear hS hD hP
  rw [iI_clamp hzCo.size, upd_iI] at hP_1 hD_1
  replace hP_1 : va_P G classes [(aCo, .inr (9, [.int (iI zCo.size), .ref aCo_ops, .ref aCo_values, .ref aCo_extras, .ref aCo_ends, .ref aCo_elses, .ref aCo_heights, .ref aCo_targets, .int (iI zCo.labelCount), .ref aCo_labels, .ref aCo_labelTargets])), (aCo_ops, .inl (cI, 2000, .inl (fun k9 => iI ((updZ zCo.ops zCo.size.toNat v_op) k9)))), (aCo_values, .inl (cJ, 2000, .inr (.inl zCo.values))), (aCo_extras, .inl (cI, 2000, .inl (fun k9 => iI (zCo.extras k9)))), (aCo_ends, .inl (cI, 2000, .inl (fun k9 => iI (zCo.ends k9)))), (aCo_elses, .inl (cI, 2000, .inl (fun k9 => iI (zCo.elses k9)))), (aCo_heights, .inl (cI, 2000, .inl (fun k9 => iI (zCt.heights k9)))), (aCo_targets, .inl (cI, 2000, .inl (fun k9 => iI (zCt.targets k9)))), (aCo_labels, .inl (cI, 2000, .inl (fun k9 => iI (zCo.labels k9)))), (aCo_labelTargets, .inl (cI, 2000, .inl (fun k9 => iI (zCt.labelTargets k9))))] H_1 := hP_1
  replace hD_1 : va_D A [(aCo, .inr (9, [.int (iI zCo.size), .ref aCo_ops, .ref aCo_values, .ref aCo_extras, .ref aCo_ends, .ref aCo_elses, .ref aCo_heights, .ref aCo_targets, .int (iI zCo.labelCount), .ref aCo_labels, .ref aCo_labelTargets])), (aCo_ops, .inl (cI, 2000, .inl (fun k9 => iI ((updZ zCo.ops zCo.size.toNat v_op) k9)))), (aCo_values, .inl (cJ, 2000, .inr (.inl zCo.values))), (aCo_extras, .inl (cI, 2000, .inl (fun k9 => iI (zCo.extras k9)))), (aCo_ends, .inl (cI, 2000, .inl (fun k9 => iI (zCo.ends k9)))), (aCo_elses, .inl (cI, 2000, .inl (fun k9 => iI (zCo.elses k9)))), (aCo_heights, .inl (cI, 2000, .inl (fun k9 => iI (zCt.heights k9)))), (aCo_targets, .inl (cI, 2000, .inl (fun k9 => iI (zCt.targets k9)))), (aCo_labels, .inl (cI, 2000, .inl (fun k9 => iI (zCo.labels k9)))), (aCo_labelTargets, .inl (cI, 2000, .inl (fun k9 => iI (zCt.labelTargets k9))))] := hD_1
  refine lv_aload_n hx hb d_Co_add_12 rfl (lv_at hl 1 rfl) ?_
  refine va_get (D := G) (ci := 9) (v := .ref aCo_values) (C := R_Co) (T := F_Co) (N := 11) hx hb hts i_Co hown hK hP_1 0 rfl rfl 2 (by decide) (hts _ m_263) (fun _ h9 => h9) rfl d_Co_add_13 ?_
  refine lv_iload_n hx hb d_Co_add_16 rfl (lv_at hl 0 rfl) ?_
  refine lv_lconst (v := 0) hx hb d_Co_add_17 (by decide) ?_
  replace hf := grd hnb hf
  obtain ⟨g_2, hf⟩ := hf
  refine va_last hx hb hK hP_1 hD_1 hS_1 2 2 rfl rfl (vp_in_iI hzCo.size g_2) d_Co_add_18 (fun H_2 locs_2 hP_2 hD_2 hS_2 => ?_)
  clear hS_1 hD_1 hP_1
  rw [iI_clamp hzCo.size] at hP_2 hD_2
  replace hP_2 : va_P G classes [(aCo, .inr (9, [.int (iI zCo.size), .ref aCo_ops, .ref aCo_values, .ref aCo_extras, .ref aCo_ends, .ref aCo_elses, .ref aCo_heights, .ref aCo_targets, .int (iI zCo.labelCount), .ref aCo_labels, .ref aCo_labelTargets])), (aCo_ops, .inl (cI, 2000, .inl (fun k9 => iI ((updZ zCo.ops zCo.size.toNat v_op) k9)))), (aCo_values, .inl (cJ, 2000, .inr (.inl (vp_updL zCo.values zCo.size.toNat 0)))), (aCo_extras, .inl (cI, 2000, .inl (fun k9 => iI (zCo.extras k9)))), (aCo_ends, .inl (cI, 2000, .inl (fun k9 => iI (zCo.ends k9)))), (aCo_elses, .inl (cI, 2000, .inl (fun k9 => iI (zCo.elses k9)))), (aCo_heights, .inl (cI, 2000, .inl (fun k9 => iI (zCt.heights k9)))), (aCo_targets, .inl (cI, 2000, .inl (fun k9 => iI (zCt.targets k9)))), (aCo_labels, .inl (cI, 2000, .inl (fun k9 => iI (zCo.labels k9)))), (aCo_labelTargets, .inl (cI, 2000, .inl (fun k9 => iI (zCt.labelTargets k9))))] H_2 := hP_2
  replace hD_2 : va_D A [(aCo, .inr (9, [.int (iI zCo.size), .ref aCo_ops, .ref aCo_values, .ref aCo_extras, .ref aCo_ends, .ref aCo_elses, .ref aCo_heights, .ref aCo_targets, .int (iI zCo.labelCount), .ref aCo_labels, .ref aCo_labelTargets])), (aCo_ops, .inl (cI, 2000, .inl (fun k9 => iI ((updZ zCo.ops zCo.size.toNat v_op) k9)))), (aCo_values, .inl (cJ, 2000, .inr (.inl (vp_updL zCo.values zCo.size.toNat 0)))), (aCo_extras, .inl (cI, 2000, .inl (fun k9 => iI (zCo.extras k9)))), (aCo_ends, .inl (cI, 2000, .inl (fun k9 => iI (zCo.ends k9)))), (aCo_elses, .inl (cI, 2000, .inl (fun k9 => iI (zCo.elses k9)))), (aCo_heights, .inl (cI, 2000, .inl (fun k9 => iI (zCt.heights k9)))), (aCo_targets, .inl (cI, 2000, .inl (fun k9 => iI (zCt.targets k9)))), (aCo_labels, .inl (cI, 2000, .inl (fun k9 => iI (zCo.labels k9)))), (aCo_labelTargets, .inl (cI, 2000, .inl (fun k9 => iI (zCt.labelTargets k9))))] := hD_2
  refine lv_aload_n hx hb d_Co_add_19 rfl (lv_at hl 1 rfl) ?_
  refine va_get (D := G) (ci := 9) (v := .ref aCo_extras) (C := R_Co) (T := F_Co) (N := 11) hx hb hts i_Co hown hK hP_2 0 rfl rfl 3 (by decide) (hts _ m_267) (fun _ h9 => h9) rfl d_Co_add_20 ?_
  refine lv_iload_n hx hb d_Co_add_23 rfl (lv_at hl 0 rfl) ?_
  refine lv_bipush (v := iI 64) hx hb d_Co_add_24 (by decide) ?_
  replace hf := grd hnb hf
  obtain ⟨g_3, hf⟩ := hf
  refine va_iast hx hb hK hP_2 hD_2 hS_2 3 1 rfl rfl (vp_in_iI hzCo.size g_3) d_Co_add_26 (fun H_3 locs_3 hP_3 hD_3 hS_3 => ?_)
  clear hS_2 hD_2 hP_2
  rw [iI_clamp hzCo.size, upd_iI] at hP_3 hD_3
  replace hP_3 : va_P G classes [(aCo, .inr (9, [.int (iI zCo.size), .ref aCo_ops, .ref aCo_values, .ref aCo_extras, .ref aCo_ends, .ref aCo_elses, .ref aCo_heights, .ref aCo_targets, .int (iI zCo.labelCount), .ref aCo_labels, .ref aCo_labelTargets])), (aCo_ops, .inl (cI, 2000, .inl (fun k9 => iI ((updZ zCo.ops zCo.size.toNat v_op) k9)))), (aCo_values, .inl (cJ, 2000, .inr (.inl (vp_updL zCo.values zCo.size.toNat 0)))), (aCo_extras, .inl (cI, 2000, .inl (fun k9 => iI ((updZ zCo.extras zCo.size.toNat 64) k9)))), (aCo_ends, .inl (cI, 2000, .inl (fun k9 => iI (zCo.ends k9)))), (aCo_elses, .inl (cI, 2000, .inl (fun k9 => iI (zCo.elses k9)))), (aCo_heights, .inl (cI, 2000, .inl (fun k9 => iI (zCt.heights k9)))), (aCo_targets, .inl (cI, 2000, .inl (fun k9 => iI (zCt.targets k9)))), (aCo_labels, .inl (cI, 2000, .inl (fun k9 => iI (zCo.labels k9)))), (aCo_labelTargets, .inl (cI, 2000, .inl (fun k9 => iI (zCt.labelTargets k9))))] H_3 := hP_3
  replace hD_3 : va_D A [(aCo, .inr (9, [.int (iI zCo.size), .ref aCo_ops, .ref aCo_values, .ref aCo_extras, .ref aCo_ends, .ref aCo_elses, .ref aCo_heights, .ref aCo_targets, .int (iI zCo.labelCount), .ref aCo_labels, .ref aCo_labelTargets])), (aCo_ops, .inl (cI, 2000, .inl (fun k9 => iI ((updZ zCo.ops zCo.size.toNat v_op) k9)))), (aCo_values, .inl (cJ, 2000, .inr (.inl (vp_updL zCo.values zCo.size.toNat 0)))), (aCo_extras, .inl (cI, 2000, .inl (fun k9 => iI ((updZ zCo.extras zCo.size.toNat 64) k9)))), (aCo_ends, .inl (cI, 2000, .inl (fun k9 => iI (zCo.ends k9)))), (aCo_elses, .inl (cI, 2000, .inl (fun k9 => iI (zCo.elses k9)))), (aCo_heights, .inl (cI, 2000, .inl (fun k9 => iI (zCt.heights k9)))), (aCo_targets, .inl (cI, 2000, .inl (fun k9 => iI (zCt.targets k9)))), (aCo_labels, .inl (cI, 2000, .inl (fun k9 => iI (zCo.labels k9)))), (aCo_labelTargets, .inl (cI, 2000, .inl (fun k9 => iI (zCt.labelTargets k9))))] := hD_3
  refine lv_aload_n hx hb d_Co_add_27 rfl (lv_at hl 1 rfl) ?_
  refine va_get (D := G) (ci := 9) (v := .ref aCo_ends) (C := R_Co) (T := F_Co) (N := 11) hx hb hts i_Co hown hK hP_3 0 rfl rfl 4 (by decide) (hts _ m_271) (fun _ h9 => h9) rfl d_Co_add_28 ?_
  refine lv_iload_n hx hb d_Co_add_31 rfl (lv_at hl 0 rfl) ?_
  refine lv_iconst (v := iI (-1)) hx hb d_Co_add_32 (by decide) ?_
  replace hf := grd hnb hf
  obtain ⟨g_4, hf⟩ := hf
  refine va_iast hx hb hK hP_3 hD_3 hS_3 4 1 rfl rfl (vp_in_iI hzCo.size g_4) d_Co_add_33 (fun H_4 locs_4 hP_4 hD_4 hS_4 => ?_)
  clear hS_3 hD_3 hP_3
  rw [iI_clamp hzCo.size, upd_iI] at hP_4 hD_4
  replace hP_4 : va_P G classes [(aCo, .inr (9, [.int (iI zCo.size), .ref aCo_ops, .ref aCo_values, .ref aCo_extras, .ref aCo_ends, .ref aCo_elses, .ref aCo_heights, .ref aCo_targets, .int (iI zCo.labelCount), .ref aCo_labels, .ref aCo_labelTargets])), (aCo_ops, .inl (cI, 2000, .inl (fun k9 => iI ((updZ zCo.ops zCo.size.toNat v_op) k9)))), (aCo_values, .inl (cJ, 2000, .inr (.inl (vp_updL zCo.values zCo.size.toNat 0)))), (aCo_extras, .inl (cI, 2000, .inl (fun k9 => iI ((updZ zCo.extras zCo.size.toNat 64) k9)))), (aCo_ends, .inl (cI, 2000, .inl (fun k9 => iI ((updZ zCo.ends zCo.size.toNat (-1)) k9)))), (aCo_elses, .inl (cI, 2000, .inl (fun k9 => iI (zCo.elses k9)))), (aCo_heights, .inl (cI, 2000, .inl (fun k9 => iI (zCt.heights k9)))), (aCo_targets, .inl (cI, 2000, .inl (fun k9 => iI (zCt.targets k9)))), (aCo_labels, .inl (cI, 2000, .inl (fun k9 => iI (zCo.labels k9)))), (aCo_labelTargets, .inl (cI, 2000, .inl (fun k9 => iI (zCt.labelTargets k9))))] H_4 := hP_4
  replace hD_4 : va_D A [(aCo, .inr (9, [.int (iI zCo.size), .ref aCo_ops, .ref aCo_values, .ref aCo_extras, .ref aCo_ends, .ref aCo_elses, .ref aCo_heights, .ref aCo_targets, .int (iI zCo.labelCount), .ref aCo_labels, .ref aCo_labelTargets])), (aCo_ops, .inl (cI, 2000, .inl (fun k9 => iI ((updZ zCo.ops zCo.size.toNat v_op) k9)))), (aCo_values, .inl (cJ, 2000, .inr (.inl (vp_updL zCo.values zCo.size.toNat 0)))), (aCo_extras, .inl (cI, 2000, .inl (fun k9 => iI ((updZ zCo.extras zCo.size.toNat 64) k9)))), (aCo_ends, .inl (cI, 2000, .inl (fun k9 => iI ((updZ zCo.ends zCo.size.toNat (-1)) k9)))), (aCo_elses, .inl (cI, 2000, .inl (fun k9 => iI (zCo.elses k9)))), (aCo_heights, .inl (cI, 2000, .inl (fun k9 => iI (zCt.heights k9)))), (aCo_targets, .inl (cI, 2000, .inl (fun k9 => iI (zCt.targets k9)))), (aCo_labels, .inl (cI, 2000, .inl (fun k9 => iI (zCo.labels k9)))), (aCo_labelTargets, .inl (cI, 2000, .inl (fun k9 => iI (zCt.labelTargets k9))))] := hD_4
  refine lv_aload_n hx hb d_Co_add_34 rfl (lv_at hl 1 rfl) ?_
  refine va_get (D := G) (ci := 9) (v := .ref aCo_elses) (C := R_Co) (T := F_Co) (N := 11) hx hb hts i_Co hown hK hP_4 0 rfl rfl 5 (by decide) (hts _ m_274) (fun _ h9 => h9) rfl d_Co_add_35 ?_
  refine lv_iload_n hx hb d_Co_add_38 rfl (lv_at hl 0 rfl) ?_
  refine lv_iconst (v := iI (-1)) hx hb d_Co_add_39 (by decide) ?_
  replace hf := grd hnb hf
  obtain ⟨g_5, hf⟩ := hf
  refine va_iast hx hb hK hP_4 hD_4 hS_4 5 1 rfl rfl (vp_in_iI hzCo.size g_5) d_Co_add_40 (fun H_5 locs_5 hP_5 hD_5 hS_5 => ?_)
  clear hS_4 hD_4 hP_4
  rw [iI_clamp hzCo.size, upd_iI] at hP_5 hD_5
  replace hP_5 : va_P G classes [(aCo, .inr (9, [.int (iI zCo.size), .ref aCo_ops, .ref aCo_values, .ref aCo_extras, .ref aCo_ends, .ref aCo_elses, .ref aCo_heights, .ref aCo_targets, .int (iI zCo.labelCount), .ref aCo_labels, .ref aCo_labelTargets])), (aCo_ops, .inl (cI, 2000, .inl (fun k9 => iI ((updZ zCo.ops zCo.size.toNat v_op) k9)))), (aCo_values, .inl (cJ, 2000, .inr (.inl (vp_updL zCo.values zCo.size.toNat 0)))), (aCo_extras, .inl (cI, 2000, .inl (fun k9 => iI ((updZ zCo.extras zCo.size.toNat 64) k9)))), (aCo_ends, .inl (cI, 2000, .inl (fun k9 => iI ((updZ zCo.ends zCo.size.toNat (-1)) k9)))), (aCo_elses, .inl (cI, 2000, .inl (fun k9 => iI ((updZ zCo.elses zCo.size.toNat (-1)) k9)))), (aCo_heights, .inl (cI, 2000, .inl (fun k9 => iI (zCt.heights k9)))), (aCo_targets, .inl (cI, 2000, .inl (fun k9 => iI (zCt.targets k9)))), (aCo_labels, .inl (cI, 2000, .inl (fun k9 => iI (zCo.labels k9)))), (aCo_labelTargets, .inl (cI, 2000, .inl (fun k9 => iI (zCt.labelTargets k9))))] H_5 := hP_5
  replace hD_5 : va_D A [(aCo, .inr (9, [.int (iI zCo.size), .ref aCo_ops, .ref aCo_values, .ref aCo_extras, .ref aCo_ends, .ref aCo_elses, .ref aCo_heights, .ref aCo_targets, .int (iI zCo.labelCount), .ref aCo_labels, .ref aCo_labelTargets])), (aCo_ops, .inl (cI, 2000, .inl (fun k9 => iI ((updZ zCo.ops zCo.size.toNat v_op) k9)))), (aCo_values, .inl (cJ, 2000, .inr (.inl (vp_updL zCo.values zCo.size.toNat 0)))), (aCo_extras, .inl (cI, 2000, .inl (fun k9 => iI ((updZ zCo.extras zCo.size.toNat 64) k9)))), (aCo_ends, .inl (cI, 2000, .inl (fun k9 => iI ((updZ zCo.ends zCo.size.toNat (-1)) k9)))), (aCo_elses, .inl (cI, 2000, .inl (fun k9 => iI ((updZ zCo.elses zCo.size.toNat (-1)) k9)))), (aCo_heights, .inl (cI, 2000, .inl (fun k9 => iI (zCt.heights k9)))), (aCo_targets, .inl (cI, 2000, .inl (fun k9 => iI (zCt.targets k9)))), (aCo_labels, .inl (cI, 2000, .inl (fun k9 => iI (zCo.labels k9)))), (aCo_labelTargets, .inl (cI, 2000, .inl (fun k9 => iI (zCt.labelTargets k9))))] := hD_5
  refine lv_aload_n hx hb d_Co_add_41 rfl (lv_at hl 1 rfl) ?_
  refine va_get (D := G) (ci := 9) (v := .ref aCo_heights) (C := R_Co) (T := F_Co) (N := 11) hx hb hts i_Co hown hK hP_5 0 rfl rfl 6 (by decide) (hts _ m_278) (fun _ h9 => h9) rfl d_Co_add_42 ?_
  refine lv_iload_n hx hb d_Co_add_45 rfl (lv_at hl 0 rfl) ?_
  refine lv_iconst (v := iI 0) hx hb d_Co_add_46 (by decide) ?_
  replace hf := grd hnb hf
  obtain ⟨g_6, hf⟩ := hf
  refine va_iast hx hb hK hP_5 hD_5 hS_5 6 1 rfl rfl (vp_in_iI hzCo.size g_6) d_Co_add_47 (fun H_6 locs_6 hP_6 hD_6 hS_6 => ?_)
  clear hS_5 hD_5 hP_5
  rw [iI_clamp hzCo.size, upd_iI] at hP_6 hD_6
  replace hP_6 : va_P G classes [(aCo, .inr (9, [.int (iI zCo.size), .ref aCo_ops, .ref aCo_values, .ref aCo_extras, .ref aCo_ends, .ref aCo_elses, .ref aCo_heights, .ref aCo_targets, .int (iI zCo.labelCount), .ref aCo_labels, .ref aCo_labelTargets])), (aCo_ops, .inl (cI, 2000, .inl (fun k9 => iI ((updZ zCo.ops zCo.size.toNat v_op) k9)))), (aCo_values, .inl (cJ, 2000, .inr (.inl (vp_updL zCo.values zCo.size.toNat 0)))), (aCo_extras, .inl (cI, 2000, .inl (fun k9 => iI ((updZ zCo.extras zCo.size.toNat 64) k9)))), (aCo_ends, .inl (cI, 2000, .inl (fun k9 => iI ((updZ zCo.ends zCo.size.toNat (-1)) k9)))), (aCo_elses, .inl (cI, 2000, .inl (fun k9 => iI ((updZ zCo.elses zCo.size.toNat (-1)) k9)))), (aCo_heights, .inl (cI, 2000, .inl (fun k9 => iI ((updZ zCt.heights zCo.size.toNat 0) k9)))), (aCo_targets, .inl (cI, 2000, .inl (fun k9 => iI (zCt.targets k9)))), (aCo_labels, .inl (cI, 2000, .inl (fun k9 => iI (zCo.labels k9)))), (aCo_labelTargets, .inl (cI, 2000, .inl (fun k9 => iI (zCt.labelTargets k9))))] H_6 := hP_6
  replace hD_6 : va_D A [(aCo, .inr (9, [.int (iI zCo.size), .ref aCo_ops, .ref aCo_values, .ref aCo_extras, .ref aCo_ends, .ref aCo_elses, .ref aCo_heights, .ref aCo_targets, .int (iI zCo.labelCount), .ref aCo_labels, .ref aCo_labelTargets])), (aCo_ops, .inl (cI, 2000, .inl (fun k9 => iI ((updZ zCo.ops zCo.size.toNat v_op) k9)))), (aCo_values, .inl (cJ, 2000, .inr (.inl (vp_updL zCo.values zCo.size.toNat 0)))), (aCo_extras, .inl (cI, 2000, .inl (fun k9 => iI ((updZ zCo.extras zCo.size.toNat 64) k9)))), (aCo_ends, .inl (cI, 2000, .inl (fun k9 => iI ((updZ zCo.ends zCo.size.toNat (-1)) k9)))), (aCo_elses, .inl (cI, 2000, .inl (fun k9 => iI ((updZ zCo.elses zCo.size.toNat (-1)) k9)))), (aCo_heights, .inl (cI, 2000, .inl (fun k9 => iI ((updZ zCt.heights zCo.size.toNat 0) k9)))), (aCo_targets, .inl (cI, 2000, .inl (fun k9 => iI (zCt.targets k9)))), (aCo_labels, .inl (cI, 2000, .inl (fun k9 => iI (zCo.labels k9)))), (aCo_labelTargets, .inl (cI, 2000, .inl (fun k9 => iI (zCt.labelTargets k9))))] := hD_6
  refine lv_aload_n hx hb d_Co_add_48 rfl (lv_at hl 1 rfl) ?_
  refine va_get (D := G) (ci := 9) (v := .ref aCo_targets) (C := R_Co) (T := F_Co) (N := 11) hx hb hts i_Co hown hK hP_6 0 rfl rfl 7 (by decide) (hts _ m_281) (fun _ h9 => h9) rfl d_Co_add_49 ?_
  refine lv_iload_n hx hb d_Co_add_52 rfl (lv_at hl 0 rfl) ?_
  refine lv_iconst (v := iI (-1)) hx hb d_Co_add_53 (by decide) ?_
  replace hf := grd hnb hf
  obtain ⟨g_7, hf⟩ := hf
  refine va_iast hx hb hK hP_6 hD_6 hS_6 7 1 rfl rfl (vp_in_iI hzCo.size g_7) d_Co_add_54 (fun H_7 locs_7 hP_7 hD_7 hS_7 => ?_)
  clear hS_6 hD_6 hP_6
  rw [iI_clamp hzCo.size, upd_iI] at hP_7 hD_7
  replace hP_7 : va_P G classes [(aCo, .inr (9, [.int (iI zCo.size), .ref aCo_ops, .ref aCo_values, .ref aCo_extras, .ref aCo_ends, .ref aCo_elses, .ref aCo_heights, .ref aCo_targets, .int (iI zCo.labelCount), .ref aCo_labels, .ref aCo_labelTargets])), (aCo_ops, .inl (cI, 2000, .inl (fun k9 => iI ((updZ zCo.ops zCo.size.toNat v_op) k9)))), (aCo_values, .inl (cJ, 2000, .inr (.inl (vp_updL zCo.values zCo.size.toNat 0)))), (aCo_extras, .inl (cI, 2000, .inl (fun k9 => iI ((updZ zCo.extras zCo.size.toNat 64) k9)))), (aCo_ends, .inl (cI, 2000, .inl (fun k9 => iI ((updZ zCo.ends zCo.size.toNat (-1)) k9)))), (aCo_elses, .inl (cI, 2000, .inl (fun k9 => iI ((updZ zCo.elses zCo.size.toNat (-1)) k9)))), (aCo_heights, .inl (cI, 2000, .inl (fun k9 => iI ((updZ zCt.heights zCo.size.toNat 0) k9)))), (aCo_targets, .inl (cI, 2000, .inl (fun k9 => iI ((updZ zCt.targets zCo.size.toNat (-1)) k9)))), (aCo_labels, .inl (cI, 2000, .inl (fun k9 => iI (zCo.labels k9)))), (aCo_labelTargets, .inl (cI, 2000, .inl (fun k9 => iI (zCt.labelTargets k9))))] H_7 := hP_7
  replace hD_7 : va_D A [(aCo, .inr (9, [.int (iI zCo.size), .ref aCo_ops, .ref aCo_values, .ref aCo_extras, .ref aCo_ends, .ref aCo_elses, .ref aCo_heights, .ref aCo_targets, .int (iI zCo.labelCount), .ref aCo_labels, .ref aCo_labelTargets])), (aCo_ops, .inl (cI, 2000, .inl (fun k9 => iI ((updZ zCo.ops zCo.size.toNat v_op) k9)))), (aCo_values, .inl (cJ, 2000, .inr (.inl (vp_updL zCo.values zCo.size.toNat 0)))), (aCo_extras, .inl (cI, 2000, .inl (fun k9 => iI ((updZ zCo.extras zCo.size.toNat 64) k9)))), (aCo_ends, .inl (cI, 2000, .inl (fun k9 => iI ((updZ zCo.ends zCo.size.toNat (-1)) k9)))), (aCo_elses, .inl (cI, 2000, .inl (fun k9 => iI ((updZ zCo.elses zCo.size.toNat (-1)) k9)))), (aCo_heights, .inl (cI, 2000, .inl (fun k9 => iI ((updZ zCt.heights zCo.size.toNat 0) k9)))), (aCo_targets, .inl (cI, 2000, .inl (fun k9 => iI ((updZ zCt.targets zCo.size.toNat (-1)) k9)))), (aCo_labels, .inl (cI, 2000, .inl (fun k9 => iI (zCo.labels k9)))), (aCo_labelTargets, .inl (cI, 2000, .inl (fun k9 => iI (zCt.labelTargets k9))))] := hD_7
  refine lv_aload_n hx hb d_Co_add_55 rfl (lv_at hl 1 rfl) ?_
  refine lv_dup hx hb d_Co_add_56 rfl ?_
  refine va_get (D := G) (ci := 9) (v := .int (iI zCo.size)) (C := R_Co) (T := F_Co) (N := 11) hx hb hts i_Co hown hK hP_7 0 rfl rfl 0 (by decide) (hts _ m_256) (fun _ h9 => h9) rfl d_Co_add_57 ?_
  refine lv_iconst (v := iI 1) hx hb d_Co_add_60 (by decide) ?_
  refine lv_iadd hx hb d_Co_add_61 ?_
  refine lv_topi (fun x9 e9 => ?_)
  obtain rfl : x9 = iI (zCo.size + 1) := e9.trans (iI_add _ _)
  replace hf := grd hnb hf
  obtain ⟨g_8, hf⟩ := hf
  refine va_put (D := G) (ci := 9) (v := .int (iI (zCo.size + 1))) (ty := .int) (C := R_Co) (T := F_Co) (N := 11) hx hb hts i_Co t_Co t_Co_ok n_Co hown hK hP_7 hD_7 hS_7 0 rfl rfl 0 (by decide) (hts _ m_256) (fun _ h9 => h9) rfl (by decide +kernel) rfl rfl (Nat.le_of_ble_eq_true rfl) d_Co_add_62 (fun H_8 locs_8 hP_8 hD_8 hS_8 => ?_)
  clear hS_7 hD_7 hP_7
  replace hP_8 : va_P G classes [(aCo, .inr (9, [.int (iI (zCo.size + 1)), .ref aCo_ops, .ref aCo_values, .ref aCo_extras, .ref aCo_ends, .ref aCo_elses, .ref aCo_heights, .ref aCo_targets, .int (iI zCo.labelCount), .ref aCo_labels, .ref aCo_labelTargets])), (aCo_ops, .inl (cI, 2000, .inl (fun k9 => iI ((updZ zCo.ops zCo.size.toNat v_op) k9)))), (aCo_values, .inl (cJ, 2000, .inr (.inl (vp_updL zCo.values zCo.size.toNat 0)))), (aCo_extras, .inl (cI, 2000, .inl (fun k9 => iI ((updZ zCo.extras zCo.size.toNat 64) k9)))), (aCo_ends, .inl (cI, 2000, .inl (fun k9 => iI ((updZ zCo.ends zCo.size.toNat (-1)) k9)))), (aCo_elses, .inl (cI, 2000, .inl (fun k9 => iI ((updZ zCo.elses zCo.size.toNat (-1)) k9)))), (aCo_heights, .inl (cI, 2000, .inl (fun k9 => iI ((updZ zCt.heights zCo.size.toNat 0) k9)))), (aCo_targets, .inl (cI, 2000, .inl (fun k9 => iI ((updZ zCt.targets zCo.size.toNat (-1)) k9)))), (aCo_labels, .inl (cI, 2000, .inl (fun k9 => iI (zCo.labels k9)))), (aCo_labelTargets, .inl (cI, 2000, .inl (fun k9 => iI (zCt.labelTargets k9))))] H_8 := hP_8
  replace hD_8 : va_D A [(aCo, .inr (9, [.int (iI (zCo.size + 1)), .ref aCo_ops, .ref aCo_values, .ref aCo_extras, .ref aCo_ends, .ref aCo_elses, .ref aCo_heights, .ref aCo_targets, .int (iI zCo.labelCount), .ref aCo_labels, .ref aCo_labelTargets])), (aCo_ops, .inl (cI, 2000, .inl (fun k9 => iI ((updZ zCo.ops zCo.size.toNat v_op) k9)))), (aCo_values, .inl (cJ, 2000, .inr (.inl (vp_updL zCo.values zCo.size.toNat 0)))), (aCo_extras, .inl (cI, 2000, .inl (fun k9 => iI ((updZ zCo.extras zCo.size.toNat 64) k9)))), (aCo_ends, .inl (cI, 2000, .inl (fun k9 => iI ((updZ zCo.ends zCo.size.toNat (-1)) k9)))), (aCo_elses, .inl (cI, 2000, .inl (fun k9 => iI ((updZ zCo.elses zCo.size.toNat (-1)) k9)))), (aCo_heights, .inl (cI, 2000, .inl (fun k9 => iI ((updZ zCt.heights zCo.size.toNat 0) k9)))), (aCo_targets, .inl (cI, 2000, .inl (fun k9 => iI ((updZ zCt.targets zCo.size.toNat (-1)) k9)))), (aCo_labels, .inl (cI, 2000, .inl (fun k9 => iI (zCo.labels k9)))), (aCo_labelTargets, .inl (cI, 2000, .inl (fun k9 => iI (zCt.labelTargets k9))))] := hD_8
  refine lv_iload_n hx hb d_Co_add_65 rfl (lv_at hl 0 rfl) ?_
  exact ex_W (fun _ h => ex_mq h) (W.iret (v := iI zCo.size) hx hb hr (fun t ht hW => ⟨⟨_, ozr hf ⟨⟨(KCo.Ok.mk g_8 (updZ_ok hzCo.ops hv_op) (updZ_ok hzCo.extras (show R32 (64) by decide)) (updZ_ok hzCo.ends (show R32 (-1) by decide)) (updZ_ok hzCo.elses (show R32 (-1) by decide)) hzCo.labelCount hzCo.labels : KCo.Ok (KCo.mk (zCo.size + 1) (updZ zCo.ops zCo.size.toNat v_op) (vp_updL zCo.values zCo.size.toNat 0) (updZ zCo.extras zCo.size.toNat 64) (updZ zCo.ends zCo.size.toNat (-1)) (updZ zCo.elses zCo.size.toNat (-1)) zCo.labelCount zCo.labels)), (KCt.Ok.mk (updZ_ok hzCt.heights (show R32 (0) by decide)) (updZ_ok hzCt.targets (show R32 (-1) by decide)) hzCt.labelTargets : KCt.Ok (KCt.mk (updZ zCt.heights zCo.size.toNat 0) (updZ zCt.targets zCo.size.toNat (-1)) zCt.labelTargets)), hzCo.size⟩, rfl, rfl⟩, by rw [ht]; exact hP_8, hD_8⟩, hS_8.F ht⟩) hS_8.2.2 d_Co_add_66)
set_option maxHeartbeats 8000000 in
set_option maxRecDepth 100000 in
theorem k_Co_addLabel (l : Launch) (htr : l.stackTraces = false) (G : va_G) (cB cI cJ cZ cG : ClassId) (aCo : Nat) (aCo_ops : Nat) (aCo_values : Nat) (aCo_extras : Nat) (aCo_ends : Nat) (aCo_elses : Nat) (aCo_heights : Nat) (aCo_targets : Nat) (aCo_labels : Nat) (aCo_labelTargets : Nat) (zCo : KCo) (zCt : KCt) (hzCo : KCo.Ok zCo) (hzCt : KCt.Ok zCt) (v_label : Int) (hv_label : R32 v_label) (R9 : Out Empty (KCo × KCt)) (hf : f_Co_addLabel zCo zCt v_label = R9) (hnb : R9 ≠ .bad) (sz : Nat) : MetX l y_Co_addLabel (wx y_Co_addLabel b_Co_addLabel 2 none) { frames := 0, cells := 0, slots := 0, locals := 0 } (XP G classes (xtys cB cI cJ cZ cG) xE [.ref aCo, .int (iI v_label)] [(aCo, .inr (9, [.int (iI zCo.size), .ref aCo_ops, .ref aCo_values, .ref aCo_extras, .ref aCo_ends, .ref aCo_elses, .ref aCo_heights, .ref aCo_targets, .int (iI zCo.labelCount), .ref aCo_labels, .ref aCo_labelTargets])), (aCo_ops, .inl (cI, 2000, .inl (fun k9 => iI (zCo.ops k9)))), (aCo_values, .inl (cJ, 2000, .inr (.inl zCo.values))), (aCo_extras, .inl (cI, 2000, .inl (fun k9 => iI (zCo.extras k9)))), (aCo_ends, .inl (cI, 2000, .inl (fun k9 => iI (zCo.ends k9)))), (aCo_elses, .inl (cI, 2000, .inl (fun k9 => iI (zCo.elses k9)))), (aCo_heights, .inl (cI, 2000, .inl (fun k9 => iI (zCt.heights k9)))), (aCo_targets, .inl (cI, 2000, .inl (fun k9 => iI (zCt.targets k9)))), (aCo_labels, .inl (cI, 2000, .inl (fun k9 => iI (zCo.labels k9)))), (aCo_labelTargets, .inl (cI, 2000, .inl (fun k9 => iI (zCt.labelTargets k9))))] sz) (XQ G classes (va_A [(aCo, .inr (9, [.int (iI zCo.size), .ref aCo_ops, .ref aCo_values, .ref aCo_extras, .ref aCo_ends, .ref aCo_elses, .ref aCo_heights, .ref aCo_targets, .int (iI zCo.labelCount), .ref aCo_labels, .ref aCo_labelTargets])), (aCo_ops, .inl (cI, 2000, .inl (fun k9 => iI (zCo.ops k9)))), (aCo_values, .inl (cJ, 2000, .inr (.inl zCo.values))), (aCo_extras, .inl (cI, 2000, .inl (fun k9 => iI (zCo.extras k9)))), (aCo_ends, .inl (cI, 2000, .inl (fun k9 => iI (zCo.ends k9)))), (aCo_elses, .inl (cI, 2000, .inl (fun k9 => iI (zCo.elses k9)))), (aCo_heights, .inl (cI, 2000, .inl (fun k9 => iI (zCt.heights k9)))), (aCo_targets, .inl (cI, 2000, .inl (fun k9 => iI (zCt.targets k9)))), (aCo_labels, .inl (cI, 2000, .inl (fun k9 => iI (zCo.labels k9)))), (aCo_labelTargets, .inl (cI, 2000, .inl (fun k9 => iI (zCt.labelTargets k9))))] sz) (fun o w1 => ozp R9 (fun x9 => (KCo.Ok x9.1 ∧ KCt.Ok x9.2) ∧ o = .returned none ∧ w1 = [(aCo, .inr (9, [.int (iI x9.1.size), .ref aCo_ops, .ref aCo_values, .ref aCo_extras, .ref aCo_ends, .ref aCo_elses, .ref aCo_heights, .ref aCo_targets, .int (iI x9.1.labelCount), .ref aCo_labels, .ref aCo_labelTargets])), (aCo_ops, .inl (cI, 2000, .inl (fun k9 => iI (x9.1.ops k9)))), (aCo_values, .inl (cJ, 2000, .inr (.inl x9.1.values))), (aCo_extras, .inl (cI, 2000, .inl (fun k9 => iI (x9.1.extras k9)))), (aCo_ends, .inl (cI, 2000, .inl (fun k9 => iI (x9.1.ends k9)))), (aCo_elses, .inl (cI, 2000, .inl (fun k9 => iI (x9.1.elses k9)))), (aCo_heights, .inl (cI, 2000, .inl (fun k9 => iI (x9.2.heights k9)))), (aCo_targets, .inl (cI, 2000, .inl (fun k9 => iI (x9.2.targets k9)))), (aCo_labels, .inl (cI, 2000, .inl (fun k9 => iI (x9.1.labels k9)))), (aCo_labelTargets, .inl (cI, 2000, .inl (fun k9 => iI (x9.2.labelTargets k9))))]) (fun _ => False))) 0 0 (va_A [(aCo, .inr (9, [.int (iI zCo.size), .ref aCo_ops, .ref aCo_values, .ref aCo_extras, .ref aCo_ends, .ref aCo_elses, .ref aCo_heights, .ref aCo_targets, .int (iI zCo.labelCount), .ref aCo_labels, .ref aCo_labelTargets])), (aCo_ops, .inl (cI, 2000, .inl (fun k9 => iI (zCo.ops k9)))), (aCo_values, .inl (cJ, 2000, .inr (.inl zCo.values))), (aCo_extras, .inl (cI, 2000, .inl (fun k9 => iI (zCo.extras k9)))), (aCo_ends, .inl (cI, 2000, .inl (fun k9 => iI (zCo.ends k9)))), (aCo_elses, .inl (cI, 2000, .inl (fun k9 => iI (zCo.elses k9)))), (aCo_heights, .inl (cI, 2000, .inl (fun k9 => iI (zCt.heights k9)))), (aCo_targets, .inl (cI, 2000, .inl (fun k9 => iI (zCt.targets k9)))), (aCo_labels, .inl (cI, 2000, .inl (fun k9 => iI (zCo.labels k9)))), (aCo_labelTargets, .inl (cI, 2000, .inl (fun k9 => iI (zCt.labelTargets k9))))] sz) := by
  refine ex_ofW (cc := b_Co_addLabel) (maxL := 2) (ret := none) (by decide) rfl ?_
  intro p e s m args below meth c s₁ B hml hno hv
  obtain ⟨rfl, hsz, hP, hK, hD0, hE⟩ := hv
  have hx := B.exec
  have hb := B.bytes
  have hr := B.returns
  have hts : ∀ w ∈ lw_good, w.before _ s = true := fun w h => atoms_spec (ws := wx y_Co_addLabel b_Co_addLabel 2 none) B.pre w (List.mem_cons_of_mem _ h)
  have hown : s.vm.findClass R_Co = some m.cls := findClass_of_methodNamed B.named
  have hlocks := B.notSynchronized
  subst hsz
  have hNS := xx_nostat hP
  have hD := hD0.self (sz := s.heap.size)
  generalize hAe : va_A [(aCo, .inr (9, [.int (iI zCo.size), .ref aCo_ops, .ref aCo_values, .ref aCo_extras, .ref aCo_ends, .ref aCo_elses, .ref aCo_heights, .ref aCo_targets, .int (iI zCo.labelCount), .ref aCo_labels, .ref aCo_labelTargets])), (aCo_ops, .inl (cI, 2000, .inl (fun k9 => iI (zCo.ops k9)))), (aCo_values, .inl (cJ, 2000, .inr (.inl zCo.values))), (aCo_extras, .inl (cI, 2000, .inl (fun k9 => iI (zCo.extras k9)))), (aCo_ends, .inl (cI, 2000, .inl (fun k9 => iI (zCo.ends k9)))), (aCo_elses, .inl (cI, 2000, .inl (fun k9 => iI (zCo.elses k9)))), (aCo_heights, .inl (cI, 2000, .inl (fun k9 => iI (zCt.heights k9)))), (aCo_targets, .inl (cI, 2000, .inl (fun k9 => iI (zCt.targets k9)))), (aCo_labels, .inl (cI, 2000, .inl (fun k9 => iI (zCo.labels k9)))), (aCo_labelTargets, .inl (cI, 2000, .inl (fun k9 => iI (zCt.labelTargets k9))))] s.heap.size = A at hD hE hNS ⊢
  have hA : ∀ q : Nat, s.heap.size ≤ q → A q := fun q h => by rw [← hAe]; exact Or.inr h
  have hS : va_S A s.heap s.heap [] := va_S.rf
  have hl := lv_entry ([.ref aCo, .int (iI v_label)]) (n := 2) (Nat.le_of_ble_eq_true rfl)
  rw [lg_entry_eq]
  generalize (lg_sl ([.ref aCo, .int (iI v_label)]) ++ List.replicate (2 - (lg_sl ([.ref aCo, .int (iI v_label)])).length) Slot.unset).toArray = ls at hl ⊢
  have hl : lv_has ls 2 [(0, .ref aCo), (1, .int (iI v_label))] := hl
  unfold f_Co_addLabel at hf
  refine lv_aload_n hx hb d_Co_addLabel_0 rfl (lv_at hl 0 rfl) ?_
  refine va_get (D := G) (ci := 9) (v := .ref aCo_labels) (C := R_Co) (T := F_Co) (N := 11) hx hb hts i_Co hown hK hP 0 rfl rfl 9 (by decide) (hts _ m_286) (fun _ h9 => h9) rfl d_Co_addLabel_1 ?_
  refine lv_aload_n hx hb d_Co_addLabel_4 rfl (lv_at hl 0 rfl) ?_
  refine va_get (D := G) (ci := 9) (v := .int (iI zCo.labelCount)) (C := R_Co) (T := F_Co) (N := 11) hx hb hts i_Co hown hK hP 0 rfl rfl 8 (by decide) (hts _ m_284) (fun _ h9 => h9) rfl d_Co_addLabel_5 ?_
  refine lv_iload_n hx hb d_Co_addLabel_8 rfl (lv_at hl 1 rfl) ?_
  replace hf := grd hnb hf
  obtain ⟨g_1, hf⟩ := hf
  refine va_iast hx hb hK hP hD hS 8 1 rfl rfl (vp_in_iI hzCo.labelCount g_1) d_Co_addLabel_9 (fun H_1 locs_1 hP_1 hD_1 hS_1 => ?_)
  clear hS hD hP
  rw [iI_clamp hzCo.labelCount, upd_iI] at hP_1 hD_1
  replace hP_1 : va_P G classes [(aCo, .inr (9, [.int (iI zCo.size), .ref aCo_ops, .ref aCo_values, .ref aCo_extras, .ref aCo_ends, .ref aCo_elses, .ref aCo_heights, .ref aCo_targets, .int (iI zCo.labelCount), .ref aCo_labels, .ref aCo_labelTargets])), (aCo_ops, .inl (cI, 2000, .inl (fun k9 => iI (zCo.ops k9)))), (aCo_values, .inl (cJ, 2000, .inr (.inl zCo.values))), (aCo_extras, .inl (cI, 2000, .inl (fun k9 => iI (zCo.extras k9)))), (aCo_ends, .inl (cI, 2000, .inl (fun k9 => iI (zCo.ends k9)))), (aCo_elses, .inl (cI, 2000, .inl (fun k9 => iI (zCo.elses k9)))), (aCo_heights, .inl (cI, 2000, .inl (fun k9 => iI (zCt.heights k9)))), (aCo_targets, .inl (cI, 2000, .inl (fun k9 => iI (zCt.targets k9)))), (aCo_labels, .inl (cI, 2000, .inl (fun k9 => iI ((updZ zCo.labels zCo.labelCount.toNat v_label) k9)))), (aCo_labelTargets, .inl (cI, 2000, .inl (fun k9 => iI (zCt.labelTargets k9))))] H_1 := hP_1
  replace hD_1 : va_D A [(aCo, .inr (9, [.int (iI zCo.size), .ref aCo_ops, .ref aCo_values, .ref aCo_extras, .ref aCo_ends, .ref aCo_elses, .ref aCo_heights, .ref aCo_targets, .int (iI zCo.labelCount), .ref aCo_labels, .ref aCo_labelTargets])), (aCo_ops, .inl (cI, 2000, .inl (fun k9 => iI (zCo.ops k9)))), (aCo_values, .inl (cJ, 2000, .inr (.inl zCo.values))), (aCo_extras, .inl (cI, 2000, .inl (fun k9 => iI (zCo.extras k9)))), (aCo_ends, .inl (cI, 2000, .inl (fun k9 => iI (zCo.ends k9)))), (aCo_elses, .inl (cI, 2000, .inl (fun k9 => iI (zCo.elses k9)))), (aCo_heights, .inl (cI, 2000, .inl (fun k9 => iI (zCt.heights k9)))), (aCo_targets, .inl (cI, 2000, .inl (fun k9 => iI (zCt.targets k9)))), (aCo_labels, .inl (cI, 2000, .inl (fun k9 => iI ((updZ zCo.labels zCo.labelCount.toNat v_label) k9)))), (aCo_labelTargets, .inl (cI, 2000, .inl (fun k9 => iI (zCt.labelTargets k9))))] := hD_1
  refine lv_aload_n hx hb d_Co_addLabel_10 rfl (lv_at hl 0 rfl) ?_
  refine va_get (D := G) (ci := 9) (v := .ref aCo_labelTargets) (C := R_Co) (T := F_Co) (N := 11) hx hb hts i_Co hown hK hP_1 0 rfl rfl 10 (by decide) (hts _ m_288) (fun _ h9 => h9) rfl d_Co_addLabel_11 ?_
  refine lv_aload_n hx hb d_Co_addLabel_14 rfl (lv_at hl 0 rfl) ?_
  refine va_get (D := G) (ci := 9) (v := .int (iI zCo.labelCount)) (C := R_Co) (T := F_Co) (N := 11) hx hb hts i_Co hown hK hP_1 0 rfl rfl 8 (by decide) (hts _ m_284) (fun _ h9 => h9) rfl d_Co_addLabel_15 ?_
  refine lv_iconst (v := iI (-1)) hx hb d_Co_addLabel_18 (by decide) ?_
  replace hf := grd hnb hf
  obtain ⟨g_2, hf⟩ := hf
  refine va_iast hx hb hK hP_1 hD_1 hS_1 9 1 rfl rfl (vp_in_iI hzCo.labelCount g_2) d_Co_addLabel_19 (fun H_2 locs_2 hP_2 hD_2 hS_2 => ?_)
  clear hS_1 hD_1 hP_1
  rw [iI_clamp hzCo.labelCount, upd_iI] at hP_2 hD_2
  replace hP_2 : va_P G classes [(aCo, .inr (9, [.int (iI zCo.size), .ref aCo_ops, .ref aCo_values, .ref aCo_extras, .ref aCo_ends, .ref aCo_elses, .ref aCo_heights, .ref aCo_targets, .int (iI zCo.labelCount), .ref aCo_labels, .ref aCo_labelTargets])), (aCo_ops, .inl (cI, 2000, .inl (fun k9 => iI (zCo.ops k9)))), (aCo_values, .inl (cJ, 2000, .inr (.inl zCo.values))), (aCo_extras, .inl (cI, 2000, .inl (fun k9 => iI (zCo.extras k9)))), (aCo_ends, .inl (cI, 2000, .inl (fun k9 => iI (zCo.ends k9)))), (aCo_elses, .inl (cI, 2000, .inl (fun k9 => iI (zCo.elses k9)))), (aCo_heights, .inl (cI, 2000, .inl (fun k9 => iI (zCt.heights k9)))), (aCo_targets, .inl (cI, 2000, .inl (fun k9 => iI (zCt.targets k9)))), (aCo_labels, .inl (cI, 2000, .inl (fun k9 => iI ((updZ zCo.labels zCo.labelCount.toNat v_label) k9)))), (aCo_labelTargets, .inl (cI, 2000, .inl (fun k9 => iI ((updZ zCt.labelTargets zCo.labelCount.toNat (-1)) k9))))] H_2 := hP_2
  replace hD_2 : va_D A [(aCo, .inr (9, [.int (iI zCo.size), .ref aCo_ops, .ref aCo_values, .ref aCo_extras, .ref aCo_ends, .ref aCo_elses, .ref aCo_heights, .ref aCo_targets, .int (iI zCo.labelCount), .ref aCo_labels, .ref aCo_labelTargets])), (aCo_ops, .inl (cI, 2000, .inl (fun k9 => iI (zCo.ops k9)))), (aCo_values, .inl (cJ, 2000, .inr (.inl zCo.values))), (aCo_extras, .inl (cI, 2000, .inl (fun k9 => iI (zCo.extras k9)))), (aCo_ends, .inl (cI, 2000, .inl (fun k9 => iI (zCo.ends k9)))), (aCo_elses, .inl (cI, 2000, .inl (fun k9 => iI (zCo.elses k9)))), (aCo_heights, .inl (cI, 2000, .inl (fun k9 => iI (zCt.heights k9)))), (aCo_targets, .inl (cI, 2000, .inl (fun k9 => iI (zCt.targets k9)))), (aCo_labels, .inl (cI, 2000, .inl (fun k9 => iI ((updZ zCo.labels zCo.labelCount.toNat v_label) k9)))), (aCo_labelTargets, .inl (cI, 2000, .inl (fun k9 => iI ((updZ zCt.labelTargets zCo.labelCount.toNat (-1)) k9))))] := hD_2
  refine lv_aload_n hx hb d_Co_addLabel_20 rfl (lv_at hl 0 rfl) ?_
  refine lv_dup hx hb d_Co_addLabel_21 rfl ?_
  refine va_get (D := G) (ci := 9) (v := .int (iI zCo.labelCount)) (C := R_Co) (T := F_Co) (N := 11) hx hb hts i_Co hown hK hP_2 0 rfl rfl 8 (by decide) (hts _ m_284) (fun _ h9 => h9) rfl d_Co_addLabel_22 ?_
  refine lv_iconst (v := iI 1) hx hb d_Co_addLabel_25 (by decide) ?_
  refine lv_iadd hx hb d_Co_addLabel_26 ?_
  refine lv_topi (fun x9 e9 => ?_)
  obtain rfl : x9 = iI (zCo.labelCount + 1) := e9.trans (iI_add _ _)
  replace hf := grd hnb hf
  obtain ⟨g_3, hf⟩ := hf
  refine va_put (D := G) (ci := 9) (v := .int (iI (zCo.labelCount + 1))) (ty := .int) (C := R_Co) (T := F_Co) (N := 11) hx hb hts i_Co t_Co t_Co_ok n_Co hown hK hP_2 hD_2 hS_2 0 rfl rfl 8 (by decide) (hts _ m_284) (fun _ h9 => h9) rfl (by decide +kernel) rfl rfl (Nat.le_of_ble_eq_true rfl) d_Co_addLabel_27 (fun H_3 locs_3 hP_3 hD_3 hS_3 => ?_)
  clear hS_2 hD_2 hP_2
  replace hP_3 : va_P G classes [(aCo, .inr (9, [.int (iI zCo.size), .ref aCo_ops, .ref aCo_values, .ref aCo_extras, .ref aCo_ends, .ref aCo_elses, .ref aCo_heights, .ref aCo_targets, .int (iI (zCo.labelCount + 1)), .ref aCo_labels, .ref aCo_labelTargets])), (aCo_ops, .inl (cI, 2000, .inl (fun k9 => iI (zCo.ops k9)))), (aCo_values, .inl (cJ, 2000, .inr (.inl zCo.values))), (aCo_extras, .inl (cI, 2000, .inl (fun k9 => iI (zCo.extras k9)))), (aCo_ends, .inl (cI, 2000, .inl (fun k9 => iI (zCo.ends k9)))), (aCo_elses, .inl (cI, 2000, .inl (fun k9 => iI (zCo.elses k9)))), (aCo_heights, .inl (cI, 2000, .inl (fun k9 => iI (zCt.heights k9)))), (aCo_targets, .inl (cI, 2000, .inl (fun k9 => iI (zCt.targets k9)))), (aCo_labels, .inl (cI, 2000, .inl (fun k9 => iI ((updZ zCo.labels zCo.labelCount.toNat v_label) k9)))), (aCo_labelTargets, .inl (cI, 2000, .inl (fun k9 => iI ((updZ zCt.labelTargets zCo.labelCount.toNat (-1)) k9))))] H_3 := hP_3
  replace hD_3 : va_D A [(aCo, .inr (9, [.int (iI zCo.size), .ref aCo_ops, .ref aCo_values, .ref aCo_extras, .ref aCo_ends, .ref aCo_elses, .ref aCo_heights, .ref aCo_targets, .int (iI (zCo.labelCount + 1)), .ref aCo_labels, .ref aCo_labelTargets])), (aCo_ops, .inl (cI, 2000, .inl (fun k9 => iI (zCo.ops k9)))), (aCo_values, .inl (cJ, 2000, .inr (.inl zCo.values))), (aCo_extras, .inl (cI, 2000, .inl (fun k9 => iI (zCo.extras k9)))), (aCo_ends, .inl (cI, 2000, .inl (fun k9 => iI (zCo.ends k9)))), (aCo_elses, .inl (cI, 2000, .inl (fun k9 => iI (zCo.elses k9)))), (aCo_heights, .inl (cI, 2000, .inl (fun k9 => iI (zCt.heights k9)))), (aCo_targets, .inl (cI, 2000, .inl (fun k9 => iI (zCt.targets k9)))), (aCo_labels, .inl (cI, 2000, .inl (fun k9 => iI ((updZ zCo.labels zCo.labelCount.toNat v_label) k9)))), (aCo_labelTargets, .inl (cI, 2000, .inl (fun k9 => iI ((updZ zCt.labelTargets zCo.labelCount.toNat (-1)) k9))))] := hD_3
  exact ex_W (fun _ h => ex_mq h) (W.vret hx hb hr (fun t ht hW => ⟨⟨_, ozr hf ⟨⟨(KCo.Ok.mk hzCo.size hzCo.ops hzCo.extras hzCo.ends hzCo.elses g_3 (updZ_ok hzCo.labels hv_label) : KCo.Ok (KCo.mk zCo.size zCo.ops zCo.values zCo.extras zCo.ends zCo.elses (zCo.labelCount + 1) (updZ zCo.labels zCo.labelCount.toNat v_label))), (KCt.Ok.mk hzCt.heights hzCt.targets (updZ_ok hzCt.labelTargets (show R32 (-1) by decide)) : KCt.Ok (KCt.mk zCt.heights zCt.targets (updZ zCt.labelTargets zCo.labelCount.toNat (-1))))⟩, rfl, rfl⟩, by rw [ht]; exact hP_3, hD_3⟩, hS_3.F ht⟩) hS_3.2.2 d_Co_addLabel_30)
set_option maxHeartbeats 8000000 in
set_option maxRecDepth 100000 in
theorem k_Wa_clear (l : Launch) (htr : l.stackTraces = false) (G : va_G) (cB cI cJ cZ cG : ClassId) (aCo : Nat) (aCo_ops : Nat) (aCo_values : Nat) (aCo_extras : Nat) (aCo_ends : Nat) (aCo_elses : Nat) (aCo_heights : Nat) (aCo_targets : Nat) (aCo_labels : Nat) (aCo_labelTargets : Nat) (aEx : Nat) (aEx_kinds : Nat) (aEx_indices : Nat) (aEx_nameLengths : Nat) (aEx_names : Nat) (aWa : Nat) (aWa_parameterCounts : Nat) (aWa_parameters : Nat) (aWa_results : Nat) (aWa_functionTypes : Nat) (aWa_starts : Nat) (aWa_localCounts : Nat) (aWa_locals : Nat) (aWa_globalTypes : Nat) (aWa_globalsChange : Nat) (aWa_initialTypes : Nat) (aWa_initialValues : Nat) (zCo : KCo) (zEx : KEx) (zW1 : KW1) (zW3 : KW3) (zW5 : KW5) (zW6 : KW6) (hzCo : KCo.Ok zCo) (hzEx : KEx.Ok zEx) (hzW1 : KW1.Ok zW1) (hzW3 : KW3.Ok zW3) (hzW5 : KW5.Ok zW5) (hzW6 : KW6.Ok zW6) (R9 : Out Empty (KCo × KEx × KW1 × KW3 × KW5 × KW6)) (hf : f_Wa_clear zCo zEx zW1 zW3 zW5 zW6 = R9) (hnb : R9 ≠ .bad) (sz : Nat) : MetX l y_Wa_clear (wx y_Wa_clear b_Wa_clear 1 none) { frames := 1, cells := 0, slots := 0, locals := 20 } (XP G classes (xtys cB cI cJ cZ cG) xE [.ref aWa] [(aCo, .inr (9, [.int (iI zCo.size), .ref aCo_ops, .ref aCo_values, .ref aCo_extras, .ref aCo_ends, .ref aCo_elses, .ref aCo_heights, .ref aCo_targets, .int (iI zCo.labelCount), .ref aCo_labels, .ref aCo_labelTargets])), (aCo_ops, .inl (cI, 2000, .inl (fun k9 => iI (zCo.ops k9)))), (aCo_values, .inl (cJ, 2000, .inr (.inl zCo.values))), (aCo_extras, .inl (cI, 2000, .inl (fun k9 => iI (zCo.extras k9)))), (aCo_ends, .inl (cI, 2000, .inl (fun k9 => iI (zCo.ends k9)))), (aCo_elses, .inl (cI, 2000, .inl (fun k9 => iI (zCo.elses k9)))), (aCo_labels, .inl (cI, 2000, .inl (fun k9 => iI (zCo.labels k9)))), (aEx, .inr (8, [.int (iI zEx.size), .ref aEx_kinds, .ref aEx_indices, .ref aEx_nameLengths, .ref aEx_names])), (aEx_kinds, .inl (cI, 40, .inl (fun k9 => iI (zEx.kinds k9)))), (aEx_indices, .inl (cI, 40, .inl (fun k9 => iI (zEx.indices k9)))), (aEx_nameLengths, .inl (cI, 40, .inl (fun k9 => iI (zEx.nameLengths k9)))), (aEx_names, .inl (cB, 1200, .inl zEx.names)), (aWa, .inr (7, [.int (iI zW1.typeCount), .ref aWa_parameterCounts, .ref aWa_parameters, .ref aWa_results, .int (iI zW3.functionCount), .ref aWa_functionTypes, .ref aWa_starts, .ref aWa_localCounts, .ref aWa_locals, .int (bI zW5.hasMemory), .long zW5.pagesAtFirst, .long zW5.pagesMost, .int (iI zW6.globalCount), .ref aWa_globalTypes, .ref aWa_globalsChange, .ref aWa_initialTypes, .ref aWa_initialValues, .ref aEx, .ref aCo])), (aWa_parameterCounts, .inl (cI, 20, .inl (fun k9 => iI (zW1.parameterCounts k9)))), (aWa_parameters, .inl (cI, 160, .inl (fun k9 => iI (zW1.parameters k9)))), (aWa_results, .inl (cI, 20, .inl (fun k9 => iI (zW1.results k9)))), (aWa_functionTypes, .inl (cI, 30, .inl (fun k9 => iI (zW3.functionTypes k9)))), (aWa_globalTypes, .inl (cI, 20, .inl (fun k9 => iI (zW6.globalTypes k9)))), (aWa_globalsChange, .inl (cZ, 20, .inl (fun k9 => bI (zW6.globalsChange k9)))), (aWa_initialTypes, .inl (cI, 20, .inl (fun k9 => iI (zW6.initialTypes k9)))), (aWa_initialValues, .inl (cJ, 20, .inr (.inl zW6.initialValues)))] sz) (XQ G classes (va_A [(aCo, .inr (9, [.int (iI zCo.size), .ref aCo_ops, .ref aCo_values, .ref aCo_extras, .ref aCo_ends, .ref aCo_elses, .ref aCo_heights, .ref aCo_targets, .int (iI zCo.labelCount), .ref aCo_labels, .ref aCo_labelTargets])), (aCo_ops, .inl (cI, 2000, .inl (fun k9 => iI (zCo.ops k9)))), (aCo_values, .inl (cJ, 2000, .inr (.inl zCo.values))), (aCo_extras, .inl (cI, 2000, .inl (fun k9 => iI (zCo.extras k9)))), (aCo_ends, .inl (cI, 2000, .inl (fun k9 => iI (zCo.ends k9)))), (aCo_elses, .inl (cI, 2000, .inl (fun k9 => iI (zCo.elses k9)))), (aCo_labels, .inl (cI, 2000, .inl (fun k9 => iI (zCo.labels k9)))), (aEx, .inr (8, [.int (iI zEx.size), .ref aEx_kinds, .ref aEx_indices, .ref aEx_nameLengths, .ref aEx_names])), (aEx_kinds, .inl (cI, 40, .inl (fun k9 => iI (zEx.kinds k9)))), (aEx_indices, .inl (cI, 40, .inl (fun k9 => iI (zEx.indices k9)))), (aEx_nameLengths, .inl (cI, 40, .inl (fun k9 => iI (zEx.nameLengths k9)))), (aEx_names, .inl (cB, 1200, .inl zEx.names)), (aWa, .inr (7, [.int (iI zW1.typeCount), .ref aWa_parameterCounts, .ref aWa_parameters, .ref aWa_results, .int (iI zW3.functionCount), .ref aWa_functionTypes, .ref aWa_starts, .ref aWa_localCounts, .ref aWa_locals, .int (bI zW5.hasMemory), .long zW5.pagesAtFirst, .long zW5.pagesMost, .int (iI zW6.globalCount), .ref aWa_globalTypes, .ref aWa_globalsChange, .ref aWa_initialTypes, .ref aWa_initialValues, .ref aEx, .ref aCo])), (aWa_parameterCounts, .inl (cI, 20, .inl (fun k9 => iI (zW1.parameterCounts k9)))), (aWa_parameters, .inl (cI, 160, .inl (fun k9 => iI (zW1.parameters k9)))), (aWa_results, .inl (cI, 20, .inl (fun k9 => iI (zW1.results k9)))), (aWa_functionTypes, .inl (cI, 30, .inl (fun k9 => iI (zW3.functionTypes k9)))), (aWa_globalTypes, .inl (cI, 20, .inl (fun k9 => iI (zW6.globalTypes k9)))), (aWa_globalsChange, .inl (cZ, 20, .inl (fun k9 => bI (zW6.globalsChange k9)))), (aWa_initialTypes, .inl (cI, 20, .inl (fun k9 => iI (zW6.initialTypes k9)))), (aWa_initialValues, .inl (cJ, 20, .inr (.inl zW6.initialValues)))] sz) (fun o w1 => ozp R9 (fun x9 => (KCo.Ok x9.1 ∧ KEx.Ok x9.2.1 ∧ KW1.Ok x9.2.2.1 ∧ KW3.Ok x9.2.2.2.1 ∧ KW5.Ok x9.2.2.2.2.1 ∧ KW6.Ok x9.2.2.2.2.2) ∧ o = .returned none ∧ w1 = [(aCo, .inr (9, [.int (iI x9.1.size), .ref aCo_ops, .ref aCo_values, .ref aCo_extras, .ref aCo_ends, .ref aCo_elses, .ref aCo_heights, .ref aCo_targets, .int (iI x9.1.labelCount), .ref aCo_labels, .ref aCo_labelTargets])), (aCo_ops, .inl (cI, 2000, .inl (fun k9 => iI (x9.1.ops k9)))), (aCo_values, .inl (cJ, 2000, .inr (.inl x9.1.values))), (aCo_extras, .inl (cI, 2000, .inl (fun k9 => iI (x9.1.extras k9)))), (aCo_ends, .inl (cI, 2000, .inl (fun k9 => iI (x9.1.ends k9)))), (aCo_elses, .inl (cI, 2000, .inl (fun k9 => iI (x9.1.elses k9)))), (aCo_labels, .inl (cI, 2000, .inl (fun k9 => iI (x9.1.labels k9)))), (aEx, .inr (8, [.int (iI x9.2.1.size), .ref aEx_kinds, .ref aEx_indices, .ref aEx_nameLengths, .ref aEx_names])), (aEx_kinds, .inl (cI, 40, .inl (fun k9 => iI (x9.2.1.kinds k9)))), (aEx_indices, .inl (cI, 40, .inl (fun k9 => iI (x9.2.1.indices k9)))), (aEx_nameLengths, .inl (cI, 40, .inl (fun k9 => iI (x9.2.1.nameLengths k9)))), (aEx_names, .inl (cB, 1200, .inl x9.2.1.names)), (aWa, .inr (7, [.int (iI x9.2.2.1.typeCount), .ref aWa_parameterCounts, .ref aWa_parameters, .ref aWa_results, .int (iI x9.2.2.2.1.functionCount), .ref aWa_functionTypes, .ref aWa_starts, .ref aWa_localCounts, .ref aWa_locals, .int (bI x9.2.2.2.2.1.hasMemory), .long x9.2.2.2.2.1.pagesAtFirst, .long x9.2.2.2.2.1.pagesMost, .int (iI x9.2.2.2.2.2.globalCount), .ref aWa_globalTypes, .ref aWa_globalsChange, .ref aWa_initialTypes, .ref aWa_initialValues, .ref aEx, .ref aCo])), (aWa_parameterCounts, .inl (cI, 20, .inl (fun k9 => iI (x9.2.2.1.parameterCounts k9)))), (aWa_parameters, .inl (cI, 160, .inl (fun k9 => iI (x9.2.2.1.parameters k9)))), (aWa_results, .inl (cI, 20, .inl (fun k9 => iI (x9.2.2.1.results k9)))), (aWa_functionTypes, .inl (cI, 30, .inl (fun k9 => iI (x9.2.2.2.1.functionTypes k9)))), (aWa_globalTypes, .inl (cI, 20, .inl (fun k9 => iI (x9.2.2.2.2.2.globalTypes k9)))), (aWa_globalsChange, .inl (cZ, 20, .inl (fun k9 => bI (x9.2.2.2.2.2.globalsChange k9)))), (aWa_initialTypes, .inl (cI, 20, .inl (fun k9 => iI (x9.2.2.2.2.2.initialTypes k9)))), (aWa_initialValues, .inl (cJ, 20, .inr (.inl x9.2.2.2.2.2.initialValues)))]) (fun _ => False))) 0 0 (va_A [(aCo, .inr (9, [.int (iI zCo.size), .ref aCo_ops, .ref aCo_values, .ref aCo_extras, .ref aCo_ends, .ref aCo_elses, .ref aCo_heights, .ref aCo_targets, .int (iI zCo.labelCount), .ref aCo_labels, .ref aCo_labelTargets])), (aCo_ops, .inl (cI, 2000, .inl (fun k9 => iI (zCo.ops k9)))), (aCo_values, .inl (cJ, 2000, .inr (.inl zCo.values))), (aCo_extras, .inl (cI, 2000, .inl (fun k9 => iI (zCo.extras k9)))), (aCo_ends, .inl (cI, 2000, .inl (fun k9 => iI (zCo.ends k9)))), (aCo_elses, .inl (cI, 2000, .inl (fun k9 => iI (zCo.elses k9)))), (aCo_labels, .inl (cI, 2000, .inl (fun k9 => iI (zCo.labels k9)))), (aEx, .inr (8, [.int (iI zEx.size), .ref aEx_kinds, .ref aEx_indices, .ref aEx_nameLengths, .ref aEx_names])), (aEx_kinds, .inl (cI, 40, .inl (fun k9 => iI (zEx.kinds k9)))), (aEx_indices, .inl (cI, 40, .inl (fun k9 => iI (zEx.indices k9)))), (aEx_nameLengths, .inl (cI, 40, .inl (fun k9 => iI (zEx.nameLengths k9)))), (aEx_names, .inl (cB, 1200, .inl zEx.names)), (aWa, .inr (7, [.int (iI zW1.typeCount), .ref aWa_parameterCounts, .ref aWa_parameters, .ref aWa_results, .int (iI zW3.functionCount), .ref aWa_functionTypes, .ref aWa_starts, .ref aWa_localCounts, .ref aWa_locals, .int (bI zW5.hasMemory), .long zW5.pagesAtFirst, .long zW5.pagesMost, .int (iI zW6.globalCount), .ref aWa_globalTypes, .ref aWa_globalsChange, .ref aWa_initialTypes, .ref aWa_initialValues, .ref aEx, .ref aCo])), (aWa_parameterCounts, .inl (cI, 20, .inl (fun k9 => iI (zW1.parameterCounts k9)))), (aWa_parameters, .inl (cI, 160, .inl (fun k9 => iI (zW1.parameters k9)))), (aWa_results, .inl (cI, 20, .inl (fun k9 => iI (zW1.results k9)))), (aWa_functionTypes, .inl (cI, 30, .inl (fun k9 => iI (zW3.functionTypes k9)))), (aWa_globalTypes, .inl (cI, 20, .inl (fun k9 => iI (zW6.globalTypes k9)))), (aWa_globalsChange, .inl (cZ, 20, .inl (fun k9 => bI (zW6.globalsChange k9)))), (aWa_initialTypes, .inl (cI, 20, .inl (fun k9 => iI (zW6.initialTypes k9)))), (aWa_initialValues, .inl (cJ, 20, .inr (.inl zW6.initialValues)))] sz) := by
  refine ex_ofW (cc := b_Wa_clear) (maxL := 1) (ret := none) (by decide) rfl ?_
  intro p e s m args below meth c s₁ B hml hno hv
  obtain ⟨rfl, hsz, hP, hK, hD0, hE⟩ := hv
  have hx := B.exec
  have hb := B.bytes
  have hr := B.returns
  have hts : ∀ w ∈ lw_good, w.before _ s = true := fun w h => atoms_spec (ws := wx y_Wa_clear b_Wa_clear 1 none) B.pre w (List.mem_cons_of_mem _ h)
  have hown : s.vm.findClass R_Wa = some m.cls := findClass_of_methodNamed B.named
  have hlocks := B.notSynchronized
  subst hsz
  have hNS := xx_nostat hP
  have hD := hD0.self (sz := s.heap.size)
  generalize hAe : va_A [(aCo, .inr (9, [.int (iI zCo.size), .ref aCo_ops, .ref aCo_values, .ref aCo_extras, .ref aCo_ends, .ref aCo_elses, .ref aCo_heights, .ref aCo_targets, .int (iI zCo.labelCount), .ref aCo_labels, .ref aCo_labelTargets])), (aCo_ops, .inl (cI, 2000, .inl (fun k9 => iI (zCo.ops k9)))), (aCo_values, .inl (cJ, 2000, .inr (.inl zCo.values))), (aCo_extras, .inl (cI, 2000, .inl (fun k9 => iI (zCo.extras k9)))), (aCo_ends, .inl (cI, 2000, .inl (fun k9 => iI (zCo.ends k9)))), (aCo_elses, .inl (cI, 2000, .inl (fun k9 => iI (zCo.elses k9)))), (aCo_labels, .inl (cI, 2000, .inl (fun k9 => iI (zCo.labels k9)))), (aEx, .inr (8, [.int (iI zEx.size), .ref aEx_kinds, .ref aEx_indices, .ref aEx_nameLengths, .ref aEx_names])), (aEx_kinds, .inl (cI, 40, .inl (fun k9 => iI (zEx.kinds k9)))), (aEx_indices, .inl (cI, 40, .inl (fun k9 => iI (zEx.indices k9)))), (aEx_nameLengths, .inl (cI, 40, .inl (fun k9 => iI (zEx.nameLengths k9)))), (aEx_names, .inl (cB, 1200, .inl zEx.names)), (aWa, .inr (7, [.int (iI zW1.typeCount), .ref aWa_parameterCounts, .ref aWa_parameters, .ref aWa_results, .int (iI zW3.functionCount), .ref aWa_functionTypes, .ref aWa_starts, .ref aWa_localCounts, .ref aWa_locals, .int (bI zW5.hasMemory), .long zW5.pagesAtFirst, .long zW5.pagesMost, .int (iI zW6.globalCount), .ref aWa_globalTypes, .ref aWa_globalsChange, .ref aWa_initialTypes, .ref aWa_initialValues, .ref aEx, .ref aCo])), (aWa_parameterCounts, .inl (cI, 20, .inl (fun k9 => iI (zW1.parameterCounts k9)))), (aWa_parameters, .inl (cI, 160, .inl (fun k9 => iI (zW1.parameters k9)))), (aWa_results, .inl (cI, 20, .inl (fun k9 => iI (zW1.results k9)))), (aWa_functionTypes, .inl (cI, 30, .inl (fun k9 => iI (zW3.functionTypes k9)))), (aWa_globalTypes, .inl (cI, 20, .inl (fun k9 => iI (zW6.globalTypes k9)))), (aWa_globalsChange, .inl (cZ, 20, .inl (fun k9 => bI (zW6.globalsChange k9)))), (aWa_initialTypes, .inl (cI, 20, .inl (fun k9 => iI (zW6.initialTypes k9)))), (aWa_initialValues, .inl (cJ, 20, .inr (.inl zW6.initialValues)))] s.heap.size = A at hD hE hNS ⊢
  have hA : ∀ q : Nat, s.heap.size ≤ q → A q := fun q h => by rw [← hAe]; exact Or.inr h
  have hS : va_S A s.heap s.heap [] := va_S.rf
  have hl := lv_entry ([.ref aWa]) (n := 1) (Nat.le_of_ble_eq_true rfl)
  rw [lg_entry_eq]
  generalize (lg_sl ([.ref aWa]) ++ List.replicate (1 - (lg_sl ([.ref aWa])).length) Slot.unset).toArray = ls at hl ⊢
  have hl : lv_has ls 1 [(0, .ref aWa)] := hl
  unfold f_Wa_clear at hf
  refine lv_aload_n hx hb d_Wa_clear_0 rfl (lv_at hl 0 rfl) ?_
  refine lv_iconst (v := iI 0) hx hb d_Wa_clear_1 (by decide) ?_
  refine va_put (D := G) (ci := 7) (v := .int (iI 0)) (ty := .int) (C := R_Wa) (T := F_Wa) (N := 19) hx hb hts i_Wa t_Wa t_Wa_ok n_Wa hown hK hP hD hS 12 rfl rfl 0 (by decide) (hts _ m_314) (fun _ h9 => h9) rfl (by decide +kernel) rfl rfl (Nat.le_of_ble_eq_true rfl) d_Wa_clear_2 (fun H_1 locs_1 hP_1 hD_1 hS_1 => ?_)
  clear hS hD hP
  replace hP_1 : va_P G classes [(aCo, .inr (9, [.int (iI zCo.size), .ref aCo_ops, .ref aCo_values, .ref aCo_extras, .ref aCo_ends, .ref aCo_elses, .ref aCo_heights, .ref aCo_targets, .int (iI zCo.labelCount), .ref aCo_labels, .ref aCo_labelTargets])), (aCo_ops, .inl (cI, 2000, .inl (fun k9 => iI (zCo.ops k9)))), (aCo_values, .inl (cJ, 2000, .inr (.inl zCo.values))), (aCo_extras, .inl (cI, 2000, .inl (fun k9 => iI (zCo.extras k9)))), (aCo_ends, .inl (cI, 2000, .inl (fun k9 => iI (zCo.ends k9)))), (aCo_elses, .inl (cI, 2000, .inl (fun k9 => iI (zCo.elses k9)))), (aCo_labels, .inl (cI, 2000, .inl (fun k9 => iI (zCo.labels k9)))), (aEx, .inr (8, [.int (iI zEx.size), .ref aEx_kinds, .ref aEx_indices, .ref aEx_nameLengths, .ref aEx_names])), (aEx_kinds, .inl (cI, 40, .inl (fun k9 => iI (zEx.kinds k9)))), (aEx_indices, .inl (cI, 40, .inl (fun k9 => iI (zEx.indices k9)))), (aEx_nameLengths, .inl (cI, 40, .inl (fun k9 => iI (zEx.nameLengths k9)))), (aEx_names, .inl (cB, 1200, .inl zEx.names)), (aWa, .inr (7, [.int (iI 0), .ref aWa_parameterCounts, .ref aWa_parameters, .ref aWa_results, .int (iI zW3.functionCount), .ref aWa_functionTypes, .ref aWa_starts, .ref aWa_localCounts, .ref aWa_locals, .int (bI zW5.hasMemory), .long zW5.pagesAtFirst, .long zW5.pagesMost, .int (iI zW6.globalCount), .ref aWa_globalTypes, .ref aWa_globalsChange, .ref aWa_initialTypes, .ref aWa_initialValues, .ref aEx, .ref aCo])), (aWa_parameterCounts, .inl (cI, 20, .inl (fun k9 => iI (zW1.parameterCounts k9)))), (aWa_parameters, .inl (cI, 160, .inl (fun k9 => iI (zW1.parameters k9)))), (aWa_results, .inl (cI, 20, .inl (fun k9 => iI (zW1.results k9)))), (aWa_functionTypes, .inl (cI, 30, .inl (fun k9 => iI (zW3.functionTypes k9)))), (aWa_globalTypes, .inl (cI, 20, .inl (fun k9 => iI (zW6.globalTypes k9)))), (aWa_globalsChange, .inl (cZ, 20, .inl (fun k9 => bI (zW6.globalsChange k9)))), (aWa_initialTypes, .inl (cI, 20, .inl (fun k9 => iI (zW6.initialTypes k9)))), (aWa_initialValues, .inl (cJ, 20, .inr (.inl zW6.initialValues)))] H_1 := hP_1
  replace hD_1 : va_D A [(aCo, .inr (9, [.int (iI zCo.size), .ref aCo_ops, .ref aCo_values, .ref aCo_extras, .ref aCo_ends, .ref aCo_elses, .ref aCo_heights, .ref aCo_targets, .int (iI zCo.labelCount), .ref aCo_labels, .ref aCo_labelTargets])), (aCo_ops, .inl (cI, 2000, .inl (fun k9 => iI (zCo.ops k9)))), (aCo_values, .inl (cJ, 2000, .inr (.inl zCo.values))), (aCo_extras, .inl (cI, 2000, .inl (fun k9 => iI (zCo.extras k9)))), (aCo_ends, .inl (cI, 2000, .inl (fun k9 => iI (zCo.ends k9)))), (aCo_elses, .inl (cI, 2000, .inl (fun k9 => iI (zCo.elses k9)))), (aCo_labels, .inl (cI, 2000, .inl (fun k9 => iI (zCo.labels k9)))), (aEx, .inr (8, [.int (iI zEx.size), .ref aEx_kinds, .ref aEx_indices, .ref aEx_nameLengths, .ref aEx_names])), (aEx_kinds, .inl (cI, 40, .inl (fun k9 => iI (zEx.kinds k9)))), (aEx_indices, .inl (cI, 40, .inl (fun k9 => iI (zEx.indices k9)))), (aEx_nameLengths, .inl (cI, 40, .inl (fun k9 => iI (zEx.nameLengths k9)))), (aEx_names, .inl (cB, 1200, .inl zEx.names)), (aWa, .inr (7, [.int (iI 0), .ref aWa_parameterCounts, .ref aWa_parameters, .ref aWa_results, .int (iI zW3.functionCount), .ref aWa_functionTypes, .ref aWa_starts, .ref aWa_localCounts, .ref aWa_locals, .int (bI zW5.hasMemory), .long zW5.pagesAtFirst, .long zW5.pagesMost, .int (iI zW6.globalCount), .ref aWa_globalTypes, .ref aWa_globalsChange, .ref aWa_initialTypes, .ref aWa_initialValues, .ref aEx, .ref aCo])), (aWa_parameterCounts, .inl (cI, 20, .inl (fun k9 => iI (zW1.parameterCounts k9)))), (aWa_parameters, .inl (cI, 160, .inl (fun k9 => iI (zW1.parameters k9)))), (aWa_results, .inl (cI, 20, .inl (fun k9 => iI (zW1.results k9)))), (aWa_functionTypes, .inl (cI, 30, .inl (fun k9 => iI (zW3.functionTypes k9)))), (aWa_globalTypes, .inl (cI, 20, .inl (fun k9 => iI (zW6.globalTypes k9)))), (aWa_globalsChange, .inl (cZ, 20, .inl (fun k9 => bI (zW6.globalsChange k9)))), (aWa_initialTypes, .inl (cI, 20, .inl (fun k9 => iI (zW6.initialTypes k9)))), (aWa_initialValues, .inl (cJ, 20, .inr (.inl zW6.initialValues)))] := hD_1
  refine lv_aload_n hx hb d_Wa_clear_5 rfl (lv_at hl 0 rfl) ?_
  refine lv_iconst (v := iI 0) hx hb d_Wa_clear_6 (by decide) ?_
  refine va_put (D := G) (ci := 7) (v := .int (iI 0)) (ty := .int) (C := R_Wa) (T := F_Wa) (N := 19) hx hb hts i_Wa t_Wa t_Wa_ok n_Wa hown hK hP_1 hD_1 hS_1 12 rfl rfl 4 (by decide) (hts _ m_323) (fun _ h9 => h9) rfl (by decide +kernel) rfl rfl (Nat.le_of_ble_eq_true rfl) d_Wa_clear_7 (fun H_2 locs_2 hP_2 hD_2 hS_2 => ?_)
  clear hS_1 hD_1 hP_1
  replace hP_2 : va_P G classes [(aCo, .inr (9, [.int (iI zCo.size), .ref aCo_ops, .ref aCo_values, .ref aCo_extras, .ref aCo_ends, .ref aCo_elses, .ref aCo_heights, .ref aCo_targets, .int (iI zCo.labelCount), .ref aCo_labels, .ref aCo_labelTargets])), (aCo_ops, .inl (cI, 2000, .inl (fun k9 => iI (zCo.ops k9)))), (aCo_values, .inl (cJ, 2000, .inr (.inl zCo.values))), (aCo_extras, .inl (cI, 2000, .inl (fun k9 => iI (zCo.extras k9)))), (aCo_ends, .inl (cI, 2000, .inl (fun k9 => iI (zCo.ends k9)))), (aCo_elses, .inl (cI, 2000, .inl (fun k9 => iI (zCo.elses k9)))), (aCo_labels, .inl (cI, 2000, .inl (fun k9 => iI (zCo.labels k9)))), (aEx, .inr (8, [.int (iI zEx.size), .ref aEx_kinds, .ref aEx_indices, .ref aEx_nameLengths, .ref aEx_names])), (aEx_kinds, .inl (cI, 40, .inl (fun k9 => iI (zEx.kinds k9)))), (aEx_indices, .inl (cI, 40, .inl (fun k9 => iI (zEx.indices k9)))), (aEx_nameLengths, .inl (cI, 40, .inl (fun k9 => iI (zEx.nameLengths k9)))), (aEx_names, .inl (cB, 1200, .inl zEx.names)), (aWa, .inr (7, [.int (iI 0), .ref aWa_parameterCounts, .ref aWa_parameters, .ref aWa_results, .int (iI 0), .ref aWa_functionTypes, .ref aWa_starts, .ref aWa_localCounts, .ref aWa_locals, .int (bI zW5.hasMemory), .long zW5.pagesAtFirst, .long zW5.pagesMost, .int (iI zW6.globalCount), .ref aWa_globalTypes, .ref aWa_globalsChange, .ref aWa_initialTypes, .ref aWa_initialValues, .ref aEx, .ref aCo])), (aWa_parameterCounts, .inl (cI, 20, .inl (fun k9 => iI (zW1.parameterCounts k9)))), (aWa_parameters, .inl (cI, 160, .inl (fun k9 => iI (zW1.parameters k9)))), (aWa_results, .inl (cI, 20, .inl (fun k9 => iI (zW1.results k9)))), (aWa_functionTypes, .inl (cI, 30, .inl (fun k9 => iI (zW3.functionTypes k9)))), (aWa_globalTypes, .inl (cI, 20, .inl (fun k9 => iI (zW6.globalTypes k9)))), (aWa_globalsChange, .inl (cZ, 20, .inl (fun k9 => bI (zW6.globalsChange k9)))), (aWa_initialTypes, .inl (cI, 20, .inl (fun k9 => iI (zW6.initialTypes k9)))), (aWa_initialValues, .inl (cJ, 20, .inr (.inl zW6.initialValues)))] H_2 := hP_2
  replace hD_2 : va_D A [(aCo, .inr (9, [.int (iI zCo.size), .ref aCo_ops, .ref aCo_values, .ref aCo_extras, .ref aCo_ends, .ref aCo_elses, .ref aCo_heights, .ref aCo_targets, .int (iI zCo.labelCount), .ref aCo_labels, .ref aCo_labelTargets])), (aCo_ops, .inl (cI, 2000, .inl (fun k9 => iI (zCo.ops k9)))), (aCo_values, .inl (cJ, 2000, .inr (.inl zCo.values))), (aCo_extras, .inl (cI, 2000, .inl (fun k9 => iI (zCo.extras k9)))), (aCo_ends, .inl (cI, 2000, .inl (fun k9 => iI (zCo.ends k9)))), (aCo_elses, .inl (cI, 2000, .inl (fun k9 => iI (zCo.elses k9)))), (aCo_labels, .inl (cI, 2000, .inl (fun k9 => iI (zCo.labels k9)))), (aEx, .inr (8, [.int (iI zEx.size), .ref aEx_kinds, .ref aEx_indices, .ref aEx_nameLengths, .ref aEx_names])), (aEx_kinds, .inl (cI, 40, .inl (fun k9 => iI (zEx.kinds k9)))), (aEx_indices, .inl (cI, 40, .inl (fun k9 => iI (zEx.indices k9)))), (aEx_nameLengths, .inl (cI, 40, .inl (fun k9 => iI (zEx.nameLengths k9)))), (aEx_names, .inl (cB, 1200, .inl zEx.names)), (aWa, .inr (7, [.int (iI 0), .ref aWa_parameterCounts, .ref aWa_parameters, .ref aWa_results, .int (iI 0), .ref aWa_functionTypes, .ref aWa_starts, .ref aWa_localCounts, .ref aWa_locals, .int (bI zW5.hasMemory), .long zW5.pagesAtFirst, .long zW5.pagesMost, .int (iI zW6.globalCount), .ref aWa_globalTypes, .ref aWa_globalsChange, .ref aWa_initialTypes, .ref aWa_initialValues, .ref aEx, .ref aCo])), (aWa_parameterCounts, .inl (cI, 20, .inl (fun k9 => iI (zW1.parameterCounts k9)))), (aWa_parameters, .inl (cI, 160, .inl (fun k9 => iI (zW1.parameters k9)))), (aWa_results, .inl (cI, 20, .inl (fun k9 => iI (zW1.results k9)))), (aWa_functionTypes, .inl (cI, 30, .inl (fun k9 => iI (zW3.functionTypes k9)))), (aWa_globalTypes, .inl (cI, 20, .inl (fun k9 => iI (zW6.globalTypes k9)))), (aWa_globalsChange, .inl (cZ, 20, .inl (fun k9 => bI (zW6.globalsChange k9)))), (aWa_initialTypes, .inl (cI, 20, .inl (fun k9 => iI (zW6.initialTypes k9)))), (aWa_initialValues, .inl (cJ, 20, .inr (.inl zW6.initialValues)))] := hD_2
  refine lv_aload_n hx hb d_Wa_clear_10 rfl (lv_at hl 0 rfl) ?_
  refine lv_iconst (v := iI 0) hx hb d_Wa_clear_11 (by decide) ?_
  refine W.eq (g2 := F0 m 12 ls [.int (bI false), .ref aWa]) (by rfl) ?_
  refine va_put (D := G) (ci := 7) (v := .int (bI false)) (ty := .boolean) (C := R_Wa) (T := F_Wa) (N := 19) hx hb hts i_Wa t_Wa t_Wa_ok n_Wa hown hK hP_2 hD_2 hS_2 12 rfl rfl 9 (by decide) (hts _ m_340) (fun _ h9 => h9) rfl (by decide +kernel) (bI_nar _) (bI_fit _) (Nat.le_of_ble_eq_true rfl) d_Wa_clear_12 (fun H_3 locs_3 hP_3 hD_3 hS_3 => ?_)
  clear hS_2 hD_2 hP_2
  replace hP_3 : va_P G classes [(aCo, .inr (9, [.int (iI zCo.size), .ref aCo_ops, .ref aCo_values, .ref aCo_extras, .ref aCo_ends, .ref aCo_elses, .ref aCo_heights, .ref aCo_targets, .int (iI zCo.labelCount), .ref aCo_labels, .ref aCo_labelTargets])), (aCo_ops, .inl (cI, 2000, .inl (fun k9 => iI (zCo.ops k9)))), (aCo_values, .inl (cJ, 2000, .inr (.inl zCo.values))), (aCo_extras, .inl (cI, 2000, .inl (fun k9 => iI (zCo.extras k9)))), (aCo_ends, .inl (cI, 2000, .inl (fun k9 => iI (zCo.ends k9)))), (aCo_elses, .inl (cI, 2000, .inl (fun k9 => iI (zCo.elses k9)))), (aCo_labels, .inl (cI, 2000, .inl (fun k9 => iI (zCo.labels k9)))), (aEx, .inr (8, [.int (iI zEx.size), .ref aEx_kinds, .ref aEx_indices, .ref aEx_nameLengths, .ref aEx_names])), (aEx_kinds, .inl (cI, 40, .inl (fun k9 => iI (zEx.kinds k9)))), (aEx_indices, .inl (cI, 40, .inl (fun k9 => iI (zEx.indices k9)))), (aEx_nameLengths, .inl (cI, 40, .inl (fun k9 => iI (zEx.nameLengths k9)))), (aEx_names, .inl (cB, 1200, .inl zEx.names)), (aWa, .inr (7, [.int (iI 0), .ref aWa_parameterCounts, .ref aWa_parameters, .ref aWa_results, .int (iI 0), .ref aWa_functionTypes, .ref aWa_starts, .ref aWa_localCounts, .ref aWa_locals, .int (bI false), .long zW5.pagesAtFirst, .long zW5.pagesMost, .int (iI zW6.globalCount), .ref aWa_globalTypes, .ref aWa_globalsChange, .ref aWa_initialTypes, .ref aWa_initialValues, .ref aEx, .ref aCo])), (aWa_parameterCounts, .inl (cI, 20, .inl (fun k9 => iI (zW1.parameterCounts k9)))), (aWa_parameters, .inl (cI, 160, .inl (fun k9 => iI (zW1.parameters k9)))), (aWa_results, .inl (cI, 20, .inl (fun k9 => iI (zW1.results k9)))), (aWa_functionTypes, .inl (cI, 30, .inl (fun k9 => iI (zW3.functionTypes k9)))), (aWa_globalTypes, .inl (cI, 20, .inl (fun k9 => iI (zW6.globalTypes k9)))), (aWa_globalsChange, .inl (cZ, 20, .inl (fun k9 => bI (zW6.globalsChange k9)))), (aWa_initialTypes, .inl (cI, 20, .inl (fun k9 => iI (zW6.initialTypes k9)))), (aWa_initialValues, .inl (cJ, 20, .inr (.inl zW6.initialValues)))] H_3 := hP_3
  replace hD_3 : va_D A [(aCo, .inr (9, [.int (iI zCo.size), .ref aCo_ops, .ref aCo_values, .ref aCo_extras, .ref aCo_ends, .ref aCo_elses, .ref aCo_heights, .ref aCo_targets, .int (iI zCo.labelCount), .ref aCo_labels, .ref aCo_labelTargets])), (aCo_ops, .inl (cI, 2000, .inl (fun k9 => iI (zCo.ops k9)))), (aCo_values, .inl (cJ, 2000, .inr (.inl zCo.values))), (aCo_extras, .inl (cI, 2000, .inl (fun k9 => iI (zCo.extras k9)))), (aCo_ends, .inl (cI, 2000, .inl (fun k9 => iI (zCo.ends k9)))), (aCo_elses, .inl (cI, 2000, .inl (fun k9 => iI (zCo.elses k9)))), (aCo_labels, .inl (cI, 2000, .inl (fun k9 => iI (zCo.labels k9)))), (aEx, .inr (8, [.int (iI zEx.size), .ref aEx_kinds, .ref aEx_indices, .ref aEx_nameLengths, .ref aEx_names])), (aEx_kinds, .inl (cI, 40, .inl (fun k9 => iI (zEx.kinds k9)))), (aEx_indices, .inl (cI, 40, .inl (fun k9 => iI (zEx.indices k9)))), (aEx_nameLengths, .inl (cI, 40, .inl (fun k9 => iI (zEx.nameLengths k9)))), (aEx_names, .inl (cB, 1200, .inl zEx.names)), (aWa, .inr (7, [.int (iI 0), .ref aWa_parameterCounts, .ref aWa_parameters, .ref aWa_results, .int (iI 0), .ref aWa_functionTypes, .ref aWa_starts, .ref aWa_localCounts, .ref aWa_locals, .int (bI false), .long zW5.pagesAtFirst, .long zW5.pagesMost, .int (iI zW6.globalCount), .ref aWa_globalTypes, .ref aWa_globalsChange, .ref aWa_initialTypes, .ref aWa_initialValues, .ref aEx, .ref aCo])), (aWa_parameterCounts, .inl (cI, 20, .inl (fun k9 => iI (zW1.parameterCounts k9)))), (aWa_parameters, .inl (cI, 160, .inl (fun k9 => iI (zW1.parameters k9)))), (aWa_results, .inl (cI, 20, .inl (fun k9 => iI (zW1.results k9)))), (aWa_functionTypes, .inl (cI, 30, .inl (fun k9 => iI (zW3.functionTypes k9)))), (aWa_globalTypes, .inl (cI, 20, .inl (fun k9 => iI (zW6.globalTypes k9)))), (aWa_globalsChange, .inl (cZ, 20, .inl (fun k9 => bI (zW6.globalsChange k9)))), (aWa_initialTypes, .inl (cI, 20, .inl (fun k9 => iI (zW6.initialTypes k9)))), (aWa_initialValues, .inl (cJ, 20, .inr (.inl zW6.initialValues)))] := hD_3
  refine lv_aload_n hx hb d_Wa_clear_15 rfl (lv_at hl 0 rfl) ?_
  refine lv_lconst (v := 0) hx hb d_Wa_clear_16 (by decide) ?_
  refine va_put (D := G) (ci := 7) (v := .long 0) (ty := .long) (C := R_Wa) (T := F_Wa) (N := 19) hx hb hts i_Wa t_Wa t_Wa_ok n_Wa hown hK hP_3 hD_3 hS_3 12 rfl rfl 10 (by decide) (hts _ m_344) (fun _ h9 => h9) rfl (by decide +kernel) rfl rfl (Nat.le_of_ble_eq_true rfl) d_Wa_clear_17 (fun H_4 locs_4 hP_4 hD_4 hS_4 => ?_)
  clear hS_3 hD_3 hP_3
  replace hP_4 : va_P G classes [(aCo, .inr (9, [.int (iI zCo.size), .ref aCo_ops, .ref aCo_values, .ref aCo_extras, .ref aCo_ends, .ref aCo_elses, .ref aCo_heights, .ref aCo_targets, .int (iI zCo.labelCount), .ref aCo_labels, .ref aCo_labelTargets])), (aCo_ops, .inl (cI, 2000, .inl (fun k9 => iI (zCo.ops k9)))), (aCo_values, .inl (cJ, 2000, .inr (.inl zCo.values))), (aCo_extras, .inl (cI, 2000, .inl (fun k9 => iI (zCo.extras k9)))), (aCo_ends, .inl (cI, 2000, .inl (fun k9 => iI (zCo.ends k9)))), (aCo_elses, .inl (cI, 2000, .inl (fun k9 => iI (zCo.elses k9)))), (aCo_labels, .inl (cI, 2000, .inl (fun k9 => iI (zCo.labels k9)))), (aEx, .inr (8, [.int (iI zEx.size), .ref aEx_kinds, .ref aEx_indices, .ref aEx_nameLengths, .ref aEx_names])), (aEx_kinds, .inl (cI, 40, .inl (fun k9 => iI (zEx.kinds k9)))), (aEx_indices, .inl (cI, 40, .inl (fun k9 => iI (zEx.indices k9)))), (aEx_nameLengths, .inl (cI, 40, .inl (fun k9 => iI (zEx.nameLengths k9)))), (aEx_names, .inl (cB, 1200, .inl zEx.names)), (aWa, .inr (7, [.int (iI 0), .ref aWa_parameterCounts, .ref aWa_parameters, .ref aWa_results, .int (iI 0), .ref aWa_functionTypes, .ref aWa_starts, .ref aWa_localCounts, .ref aWa_locals, .int (bI false), .long 0, .long zW5.pagesMost, .int (iI zW6.globalCount), .ref aWa_globalTypes, .ref aWa_globalsChange, .ref aWa_initialTypes, .ref aWa_initialValues, .ref aEx, .ref aCo])), (aWa_parameterCounts, .inl (cI, 20, .inl (fun k9 => iI (zW1.parameterCounts k9)))), (aWa_parameters, .inl (cI, 160, .inl (fun k9 => iI (zW1.parameters k9)))), (aWa_results, .inl (cI, 20, .inl (fun k9 => iI (zW1.results k9)))), (aWa_functionTypes, .inl (cI, 30, .inl (fun k9 => iI (zW3.functionTypes k9)))), (aWa_globalTypes, .inl (cI, 20, .inl (fun k9 => iI (zW6.globalTypes k9)))), (aWa_globalsChange, .inl (cZ, 20, .inl (fun k9 => bI (zW6.globalsChange k9)))), (aWa_initialTypes, .inl (cI, 20, .inl (fun k9 => iI (zW6.initialTypes k9)))), (aWa_initialValues, .inl (cJ, 20, .inr (.inl zW6.initialValues)))] H_4 := hP_4
  replace hD_4 : va_D A [(aCo, .inr (9, [.int (iI zCo.size), .ref aCo_ops, .ref aCo_values, .ref aCo_extras, .ref aCo_ends, .ref aCo_elses, .ref aCo_heights, .ref aCo_targets, .int (iI zCo.labelCount), .ref aCo_labels, .ref aCo_labelTargets])), (aCo_ops, .inl (cI, 2000, .inl (fun k9 => iI (zCo.ops k9)))), (aCo_values, .inl (cJ, 2000, .inr (.inl zCo.values))), (aCo_extras, .inl (cI, 2000, .inl (fun k9 => iI (zCo.extras k9)))), (aCo_ends, .inl (cI, 2000, .inl (fun k9 => iI (zCo.ends k9)))), (aCo_elses, .inl (cI, 2000, .inl (fun k9 => iI (zCo.elses k9)))), (aCo_labels, .inl (cI, 2000, .inl (fun k9 => iI (zCo.labels k9)))), (aEx, .inr (8, [.int (iI zEx.size), .ref aEx_kinds, .ref aEx_indices, .ref aEx_nameLengths, .ref aEx_names])), (aEx_kinds, .inl (cI, 40, .inl (fun k9 => iI (zEx.kinds k9)))), (aEx_indices, .inl (cI, 40, .inl (fun k9 => iI (zEx.indices k9)))), (aEx_nameLengths, .inl (cI, 40, .inl (fun k9 => iI (zEx.nameLengths k9)))), (aEx_names, .inl (cB, 1200, .inl zEx.names)), (aWa, .inr (7, [.int (iI 0), .ref aWa_parameterCounts, .ref aWa_parameters, .ref aWa_results, .int (iI 0), .ref aWa_functionTypes, .ref aWa_starts, .ref aWa_localCounts, .ref aWa_locals, .int (bI false), .long 0, .long zW5.pagesMost, .int (iI zW6.globalCount), .ref aWa_globalTypes, .ref aWa_globalsChange, .ref aWa_initialTypes, .ref aWa_initialValues, .ref aEx, .ref aCo])), (aWa_parameterCounts, .inl (cI, 20, .inl (fun k9 => iI (zW1.parameterCounts k9)))), (aWa_parameters, .inl (cI, 160, .inl (fun k9 => iI (zW1.parameters k9)))), (aWa_results, .inl (cI, 20, .inl (fun k9 => iI (zW1.results k9)))), (aWa_functionTypes, .inl (cI, 30, .inl (fun k9 => iI (zW3.functionTypes k9)))), (aWa_globalTypes, .inl (cI, 20, .inl (fun k9 => iI (zW6.globalTypes k9)))), (aWa_globalsChange, .inl (cZ, 20, .inl (fun k9 => bI (zW6.globalsChange k9)))), (aWa_initialTypes, .inl (cI, 20, .inl (fun k9 => iI (zW6.initialTypes k9)))), (aWa_initialValues, .inl (cJ, 20, .inr (.inl zW6.initialValues)))] := hD_4
  refine lv_aload_n hx hb d_Wa_clear_20 rfl (lv_at hl 0 rfl) ?_
  refine lv_lconst (v := 0) hx hb d_Wa_clear_21 (by decide) ?_
  refine va_put (D := G) (ci := 7) (v := .long 0) (ty := .long) (C := R_Wa) (T := F_Wa) (N := 19) hx hb hts i_Wa t_Wa t_Wa_ok n_Wa hown hK hP_4 hD_4 hS_4 12 rfl rfl 11 (by decide) (hts _ m_348) (fun _ h9 => h9) rfl (by decide +kernel) rfl rfl (Nat.le_of_ble_eq_true rfl) d_Wa_clear_22 (fun H_5 locs_5 hP_5 hD_5 hS_5 => ?_)
  clear hS_4 hD_4 hP_4
  replace hP_5 : va_P G classes [(aCo, .inr (9, [.int (iI zCo.size), .ref aCo_ops, .ref aCo_values, .ref aCo_extras, .ref aCo_ends, .ref aCo_elses, .ref aCo_heights, .ref aCo_targets, .int (iI zCo.labelCount), .ref aCo_labels, .ref aCo_labelTargets])), (aCo_ops, .inl (cI, 2000, .inl (fun k9 => iI (zCo.ops k9)))), (aCo_values, .inl (cJ, 2000, .inr (.inl zCo.values))), (aCo_extras, .inl (cI, 2000, .inl (fun k9 => iI (zCo.extras k9)))), (aCo_ends, .inl (cI, 2000, .inl (fun k9 => iI (zCo.ends k9)))), (aCo_elses, .inl (cI, 2000, .inl (fun k9 => iI (zCo.elses k9)))), (aCo_labels, .inl (cI, 2000, .inl (fun k9 => iI (zCo.labels k9)))), (aEx, .inr (8, [.int (iI zEx.size), .ref aEx_kinds, .ref aEx_indices, .ref aEx_nameLengths, .ref aEx_names])), (aEx_kinds, .inl (cI, 40, .inl (fun k9 => iI (zEx.kinds k9)))), (aEx_indices, .inl (cI, 40, .inl (fun k9 => iI (zEx.indices k9)))), (aEx_nameLengths, .inl (cI, 40, .inl (fun k9 => iI (zEx.nameLengths k9)))), (aEx_names, .inl (cB, 1200, .inl zEx.names)), (aWa, .inr (7, [.int (iI 0), .ref aWa_parameterCounts, .ref aWa_parameters, .ref aWa_results, .int (iI 0), .ref aWa_functionTypes, .ref aWa_starts, .ref aWa_localCounts, .ref aWa_locals, .int (bI false), .long 0, .long 0, .int (iI zW6.globalCount), .ref aWa_globalTypes, .ref aWa_globalsChange, .ref aWa_initialTypes, .ref aWa_initialValues, .ref aEx, .ref aCo])), (aWa_parameterCounts, .inl (cI, 20, .inl (fun k9 => iI (zW1.parameterCounts k9)))), (aWa_parameters, .inl (cI, 160, .inl (fun k9 => iI (zW1.parameters k9)))), (aWa_results, .inl (cI, 20, .inl (fun k9 => iI (zW1.results k9)))), (aWa_functionTypes, .inl (cI, 30, .inl (fun k9 => iI (zW3.functionTypes k9)))), (aWa_globalTypes, .inl (cI, 20, .inl (fun k9 => iI (zW6.globalTypes k9)))), (aWa_globalsChange, .inl (cZ, 20, .inl (fun k9 => bI (zW6.globalsChange k9)))), (aWa_initialTypes, .inl (cI, 20, .inl (fun k9 => iI (zW6.initialTypes k9)))), (aWa_initialValues, .inl (cJ, 20, .inr (.inl zW6.initialValues)))] H_5 := hP_5
  replace hD_5 : va_D A [(aCo, .inr (9, [.int (iI zCo.size), .ref aCo_ops, .ref aCo_values, .ref aCo_extras, .ref aCo_ends, .ref aCo_elses, .ref aCo_heights, .ref aCo_targets, .int (iI zCo.labelCount), .ref aCo_labels, .ref aCo_labelTargets])), (aCo_ops, .inl (cI, 2000, .inl (fun k9 => iI (zCo.ops k9)))), (aCo_values, .inl (cJ, 2000, .inr (.inl zCo.values))), (aCo_extras, .inl (cI, 2000, .inl (fun k9 => iI (zCo.extras k9)))), (aCo_ends, .inl (cI, 2000, .inl (fun k9 => iI (zCo.ends k9)))), (aCo_elses, .inl (cI, 2000, .inl (fun k9 => iI (zCo.elses k9)))), (aCo_labels, .inl (cI, 2000, .inl (fun k9 => iI (zCo.labels k9)))), (aEx, .inr (8, [.int (iI zEx.size), .ref aEx_kinds, .ref aEx_indices, .ref aEx_nameLengths, .ref aEx_names])), (aEx_kinds, .inl (cI, 40, .inl (fun k9 => iI (zEx.kinds k9)))), (aEx_indices, .inl (cI, 40, .inl (fun k9 => iI (zEx.indices k9)))), (aEx_nameLengths, .inl (cI, 40, .inl (fun k9 => iI (zEx.nameLengths k9)))), (aEx_names, .inl (cB, 1200, .inl zEx.names)), (aWa, .inr (7, [.int (iI 0), .ref aWa_parameterCounts, .ref aWa_parameters, .ref aWa_results, .int (iI 0), .ref aWa_functionTypes, .ref aWa_starts, .ref aWa_localCounts, .ref aWa_locals, .int (bI false), .long 0, .long 0, .int (iI zW6.globalCount), .ref aWa_globalTypes, .ref aWa_globalsChange, .ref aWa_initialTypes, .ref aWa_initialValues, .ref aEx, .ref aCo])), (aWa_parameterCounts, .inl (cI, 20, .inl (fun k9 => iI (zW1.parameterCounts k9)))), (aWa_parameters, .inl (cI, 160, .inl (fun k9 => iI (zW1.parameters k9)))), (aWa_results, .inl (cI, 20, .inl (fun k9 => iI (zW1.results k9)))), (aWa_functionTypes, .inl (cI, 30, .inl (fun k9 => iI (zW3.functionTypes k9)))), (aWa_globalTypes, .inl (cI, 20, .inl (fun k9 => iI (zW6.globalTypes k9)))), (aWa_globalsChange, .inl (cZ, 20, .inl (fun k9 => bI (zW6.globalsChange k9)))), (aWa_initialTypes, .inl (cI, 20, .inl (fun k9 => iI (zW6.initialTypes k9)))), (aWa_initialValues, .inl (cJ, 20, .inr (.inl zW6.initialValues)))] := hD_5
  refine lv_aload_n hx hb d_Wa_clear_25 rfl (lv_at hl 0 rfl) ?_
  refine lv_iconst (v := iI 0) hx hb d_Wa_clear_26 (by decide) ?_
  refine va_put (D := G) (ci := 7) (v := .int (iI 0)) (ty := .int) (C := R_Wa) (T := F_Wa) (N := 19) hx hb hts i_Wa t_Wa t_Wa_ok n_Wa hown hK hP_5 hD_5 hS_5 12 rfl rfl 12 (by decide) (hts _ m_352) (fun _ h9 => h9) rfl (by decide +kernel) rfl rfl (Nat.le_of_ble_eq_true rfl) d_Wa_clear_27 (fun H_6 locs_6 hP_6 hD_6 hS_6 => ?_)
  clear hS_5 hD_5 hP_5
  replace hP_6 : va_P G classes [(aCo, .inr (9, [.int (iI zCo.size), .ref aCo_ops, .ref aCo_values, .ref aCo_extras, .ref aCo_ends, .ref aCo_elses, .ref aCo_heights, .ref aCo_targets, .int (iI zCo.labelCount), .ref aCo_labels, .ref aCo_labelTargets])), (aCo_ops, .inl (cI, 2000, .inl (fun k9 => iI (zCo.ops k9)))), (aCo_values, .inl (cJ, 2000, .inr (.inl zCo.values))), (aCo_extras, .inl (cI, 2000, .inl (fun k9 => iI (zCo.extras k9)))), (aCo_ends, .inl (cI, 2000, .inl (fun k9 => iI (zCo.ends k9)))), (aCo_elses, .inl (cI, 2000, .inl (fun k9 => iI (zCo.elses k9)))), (aCo_labels, .inl (cI, 2000, .inl (fun k9 => iI (zCo.labels k9)))), (aEx, .inr (8, [.int (iI zEx.size), .ref aEx_kinds, .ref aEx_indices, .ref aEx_nameLengths, .ref aEx_names])), (aEx_kinds, .inl (cI, 40, .inl (fun k9 => iI (zEx.kinds k9)))), (aEx_indices, .inl (cI, 40, .inl (fun k9 => iI (zEx.indices k9)))), (aEx_nameLengths, .inl (cI, 40, .inl (fun k9 => iI (zEx.nameLengths k9)))), (aEx_names, .inl (cB, 1200, .inl zEx.names)), (aWa, .inr (7, [.int (iI 0), .ref aWa_parameterCounts, .ref aWa_parameters, .ref aWa_results, .int (iI 0), .ref aWa_functionTypes, .ref aWa_starts, .ref aWa_localCounts, .ref aWa_locals, .int (bI false), .long 0, .long 0, .int (iI 0), .ref aWa_globalTypes, .ref aWa_globalsChange, .ref aWa_initialTypes, .ref aWa_initialValues, .ref aEx, .ref aCo])), (aWa_parameterCounts, .inl (cI, 20, .inl (fun k9 => iI (zW1.parameterCounts k9)))), (aWa_parameters, .inl (cI, 160, .inl (fun k9 => iI (zW1.parameters k9)))), (aWa_results, .inl (cI, 20, .inl (fun k9 => iI (zW1.results k9)))), (aWa_functionTypes, .inl (cI, 30, .inl (fun k9 => iI (zW3.functionTypes k9)))), (aWa_globalTypes, .inl (cI, 20, .inl (fun k9 => iI (zW6.globalTypes k9)))), (aWa_globalsChange, .inl (cZ, 20, .inl (fun k9 => bI (zW6.globalsChange k9)))), (aWa_initialTypes, .inl (cI, 20, .inl (fun k9 => iI (zW6.initialTypes k9)))), (aWa_initialValues, .inl (cJ, 20, .inr (.inl zW6.initialValues)))] H_6 := hP_6
  replace hD_6 : va_D A [(aCo, .inr (9, [.int (iI zCo.size), .ref aCo_ops, .ref aCo_values, .ref aCo_extras, .ref aCo_ends, .ref aCo_elses, .ref aCo_heights, .ref aCo_targets, .int (iI zCo.labelCount), .ref aCo_labels, .ref aCo_labelTargets])), (aCo_ops, .inl (cI, 2000, .inl (fun k9 => iI (zCo.ops k9)))), (aCo_values, .inl (cJ, 2000, .inr (.inl zCo.values))), (aCo_extras, .inl (cI, 2000, .inl (fun k9 => iI (zCo.extras k9)))), (aCo_ends, .inl (cI, 2000, .inl (fun k9 => iI (zCo.ends k9)))), (aCo_elses, .inl (cI, 2000, .inl (fun k9 => iI (zCo.elses k9)))), (aCo_labels, .inl (cI, 2000, .inl (fun k9 => iI (zCo.labels k9)))), (aEx, .inr (8, [.int (iI zEx.size), .ref aEx_kinds, .ref aEx_indices, .ref aEx_nameLengths, .ref aEx_names])), (aEx_kinds, .inl (cI, 40, .inl (fun k9 => iI (zEx.kinds k9)))), (aEx_indices, .inl (cI, 40, .inl (fun k9 => iI (zEx.indices k9)))), (aEx_nameLengths, .inl (cI, 40, .inl (fun k9 => iI (zEx.nameLengths k9)))), (aEx_names, .inl (cB, 1200, .inl zEx.names)), (aWa, .inr (7, [.int (iI 0), .ref aWa_parameterCounts, .ref aWa_parameters, .ref aWa_results, .int (iI 0), .ref aWa_functionTypes, .ref aWa_starts, .ref aWa_localCounts, .ref aWa_locals, .int (bI false), .long 0, .long 0, .int (iI 0), .ref aWa_globalTypes, .ref aWa_globalsChange, .ref aWa_initialTypes, .ref aWa_initialValues, .ref aEx, .ref aCo])), (aWa_parameterCounts, .inl (cI, 20, .inl (fun k9 => iI (zW1.parameterCounts k9)))), (aWa_parameters, .inl (cI, 160, .inl (fun k9 => iI (zW1.parameters k9)))), (aWa_results, .inl (cI, 20, .inl (fun k9 => iI (zW1.results k9)))), (aWa_functionTypes, .inl (cI, 30, .inl (fun k9 => iI (zW3.functionTypes k9)))), (aWa_globalTypes, .inl (cI, 20, .inl (fun k9 => iI (zW6.globalTypes k9)))), (aWa_globalsChange, .inl (cZ, 20, .inl (fun k9 => bI (zW6.globalsChange k9)))), (aWa_initialTypes, .inl (cI, 20, .inl (fun k9 => iI (zW6.initialTypes k9)))), (aWa_initialValues, .inl (cJ, 20, .inr (.inl zW6.initialValues)))] := hD_6
  refine lv_aload_n hx hb d_Wa_clear_30 rfl (lv_at hl 0 rfl) ?_
  refine va_get (D := G) (ci := 7) (v := .ref aEx) (C := R_Wa) (T := F_Wa) (N := 19) hx hb hts i_Wa hown hK hP_6 12 rfl rfl 17 (by decide) (hts _ m_371) (fun _ h9 => h9) rfl d_Wa_clear_31 ?_
  refine lv_iconst (v := iI 0) hx hb d_Wa_clear_34 (by decide) ?_
  refine va_put (D := G) (ci := 8) (v := .int (iI 0)) (ty := .int) (C := R_Ex) (T := F_Ex) (N := 5) hx hb hts i_Ex t_Ex t_Ex_ok n_Ex hown hK hP_6 hD_6 hS_6 7 rfl rfl 0 (by decide) (hts _ m_226) (fun _ h9 => h9) rfl (by decide +kernel) rfl rfl (Nat.le_of_ble_eq_true rfl) d_Wa_clear_35 (fun H_7 locs_7 hP_7 hD_7 hS_7 => ?_)
  clear hS_6 hD_6 hP_6
  replace hP_7 : va_P G classes [(aCo, .inr (9, [.int (iI zCo.size), .ref aCo_ops, .ref aCo_values, .ref aCo_extras, .ref aCo_ends, .ref aCo_elses, .ref aCo_heights, .ref aCo_targets, .int (iI zCo.labelCount), .ref aCo_labels, .ref aCo_labelTargets])), (aCo_ops, .inl (cI, 2000, .inl (fun k9 => iI (zCo.ops k9)))), (aCo_values, .inl (cJ, 2000, .inr (.inl zCo.values))), (aCo_extras, .inl (cI, 2000, .inl (fun k9 => iI (zCo.extras k9)))), (aCo_ends, .inl (cI, 2000, .inl (fun k9 => iI (zCo.ends k9)))), (aCo_elses, .inl (cI, 2000, .inl (fun k9 => iI (zCo.elses k9)))), (aCo_labels, .inl (cI, 2000, .inl (fun k9 => iI (zCo.labels k9)))), (aEx, .inr (8, [.int (iI 0), .ref aEx_kinds, .ref aEx_indices, .ref aEx_nameLengths, .ref aEx_names])), (aEx_kinds, .inl (cI, 40, .inl (fun k9 => iI (zEx.kinds k9)))), (aEx_indices, .inl (cI, 40, .inl (fun k9 => iI (zEx.indices k9)))), (aEx_nameLengths, .inl (cI, 40, .inl (fun k9 => iI (zEx.nameLengths k9)))), (aEx_names, .inl (cB, 1200, .inl zEx.names)), (aWa, .inr (7, [.int (iI 0), .ref aWa_parameterCounts, .ref aWa_parameters, .ref aWa_results, .int (iI 0), .ref aWa_functionTypes, .ref aWa_starts, .ref aWa_localCounts, .ref aWa_locals, .int (bI false), .long 0, .long 0, .int (iI 0), .ref aWa_globalTypes, .ref aWa_globalsChange, .ref aWa_initialTypes, .ref aWa_initialValues, .ref aEx, .ref aCo])), (aWa_parameterCounts, .inl (cI, 20, .inl (fun k9 => iI (zW1.parameterCounts k9)))), (aWa_parameters, .inl (cI, 160, .inl (fun k9 => iI (zW1.parameters k9)))), (aWa_results, .inl (cI, 20, .inl (fun k9 => iI (zW1.results k9)))), (aWa_functionTypes, .inl (cI, 30, .inl (fun k9 => iI (zW3.functionTypes k9)))), (aWa_globalTypes, .inl (cI, 20, .inl (fun k9 => iI (zW6.globalTypes k9)))), (aWa_globalsChange, .inl (cZ, 20, .inl (fun k9 => bI (zW6.globalsChange k9)))), (aWa_initialTypes, .inl (cI, 20, .inl (fun k9 => iI (zW6.initialTypes k9)))), (aWa_initialValues, .inl (cJ, 20, .inr (.inl zW6.initialValues)))] H_7 := hP_7
  replace hD_7 : va_D A [(aCo, .inr (9, [.int (iI zCo.size), .ref aCo_ops, .ref aCo_values, .ref aCo_extras, .ref aCo_ends, .ref aCo_elses, .ref aCo_heights, .ref aCo_targets, .int (iI zCo.labelCount), .ref aCo_labels, .ref aCo_labelTargets])), (aCo_ops, .inl (cI, 2000, .inl (fun k9 => iI (zCo.ops k9)))), (aCo_values, .inl (cJ, 2000, .inr (.inl zCo.values))), (aCo_extras, .inl (cI, 2000, .inl (fun k9 => iI (zCo.extras k9)))), (aCo_ends, .inl (cI, 2000, .inl (fun k9 => iI (zCo.ends k9)))), (aCo_elses, .inl (cI, 2000, .inl (fun k9 => iI (zCo.elses k9)))), (aCo_labels, .inl (cI, 2000, .inl (fun k9 => iI (zCo.labels k9)))), (aEx, .inr (8, [.int (iI 0), .ref aEx_kinds, .ref aEx_indices, .ref aEx_nameLengths, .ref aEx_names])), (aEx_kinds, .inl (cI, 40, .inl (fun k9 => iI (zEx.kinds k9)))), (aEx_indices, .inl (cI, 40, .inl (fun k9 => iI (zEx.indices k9)))), (aEx_nameLengths, .inl (cI, 40, .inl (fun k9 => iI (zEx.nameLengths k9)))), (aEx_names, .inl (cB, 1200, .inl zEx.names)), (aWa, .inr (7, [.int (iI 0), .ref aWa_parameterCounts, .ref aWa_parameters, .ref aWa_results, .int (iI 0), .ref aWa_functionTypes, .ref aWa_starts, .ref aWa_localCounts, .ref aWa_locals, .int (bI false), .long 0, .long 0, .int (iI 0), .ref aWa_globalTypes, .ref aWa_globalsChange, .ref aWa_initialTypes, .ref aWa_initialValues, .ref aEx, .ref aCo])), (aWa_parameterCounts, .inl (cI, 20, .inl (fun k9 => iI (zW1.parameterCounts k9)))), (aWa_parameters, .inl (cI, 160, .inl (fun k9 => iI (zW1.parameters k9)))), (aWa_results, .inl (cI, 20, .inl (fun k9 => iI (zW1.results k9)))), (aWa_functionTypes, .inl (cI, 30, .inl (fun k9 => iI (zW3.functionTypes k9)))), (aWa_globalTypes, .inl (cI, 20, .inl (fun k9 => iI (zW6.globalTypes k9)))), (aWa_globalsChange, .inl (cZ, 20, .inl (fun k9 => bI (zW6.globalsChange k9)))), (aWa_initialTypes, .inl (cI, 20, .inl (fun k9 => iI (zW6.initialTypes k9)))), (aWa_initialValues, .inl (cJ, 20, .inr (.inl zW6.initialValues)))] := hD_7
  refine lv_aload_n hx hb d_Wa_clear_38 rfl (lv_at hl 0 rfl) ?_
  refine va_get (D := G) (ci := 7) (v := .ref aCo) (C := R_Wa) (T := F_Wa) (N := 19) hx hb hts i_Wa hown hK hP_7 12 rfl rfl 18 (by decide) (hts _ m_375) (fun _ h9 => h9) rfl d_Wa_clear_39 ?_
  replace hf := obE hnb hf
  obtain ⟨x_1, e_2, hf⟩ := hf
  refine xx_callV (wc := [(aCo, .inr (9, [.int (iI zCo.size), .ref aCo_ops, .ref aCo_values, .ref aCo_extras, .ref aCo_ends, .ref aCo_elses, .ref aCo_heights, .ref aCo_targets, .int (iI zCo.labelCount), .ref aCo_labels, .ref aCo_labelTargets])), (aCo_ops, .inl (cI, 2000, .inl (fun k9 => iI (zCo.ops k9)))), (aCo_values, .inl (cJ, 2000, .inr (.inl zCo.values))), (aCo_extras, .inl (cI, 2000, .inl (fun k9 => iI (zCo.extras k9)))), (aCo_ends, .inl (cI, 2000, .inl (fun k9 => iI (zCo.ends k9)))), (aCo_elses, .inl (cI, 2000, .inl (fun k9 => iI (zCo.elses k9)))), (aCo_labels, .inl (cI, 2000, .inl (fun k9 => iI (zCo.labels k9))))]) (wr := [(aEx, .inr (8, [.int (iI 0), .ref aEx_kinds, .ref aEx_indices, .ref aEx_nameLengths, .ref aEx_names])), (aEx_kinds, .inl (cI, 40, .inl (fun k9 => iI (zEx.kinds k9)))), (aEx_indices, .inl (cI, 40, .inl (fun k9 => iI (zEx.indices k9)))), (aEx_nameLengths, .inl (cI, 40, .inl (fun k9 => iI (zEx.nameLengths k9)))), (aEx_names, .inl (cB, 1200, .inl zEx.names)), (aWa, .inr (7, [.int (iI 0), .ref aWa_parameterCounts, .ref aWa_parameters, .ref aWa_results, .int (iI 0), .ref aWa_functionTypes, .ref aWa_starts, .ref aWa_localCounts, .ref aWa_locals, .int (bI false), .long 0, .long 0, .int (iI 0), .ref aWa_globalTypes, .ref aWa_globalsChange, .ref aWa_initialTypes, .ref aWa_initialValues, .ref aEx, .ref aCo])), (aWa_parameterCounts, .inl (cI, 20, .inl (fun k9 => iI (zW1.parameterCounts k9)))), (aWa_parameters, .inl (cI, 160, .inl (fun k9 => iI (zW1.parameters k9)))), (aWa_results, .inl (cI, 20, .inl (fun k9 => iI (zW1.results k9)))), (aWa_functionTypes, .inl (cI, 30, .inl (fun k9 => iI (zW3.functionTypes k9)))), (aWa_globalTypes, .inl (cI, 20, .inl (fun k9 => iI (zW6.globalTypes k9)))), (aWa_globalsChange, .inl (cZ, 20, .inl (fun k9 => bI (zW6.globalsChange k9)))), (aWa_initialTypes, .inl (cI, 20, .inl (fun k9 => iI (zW6.initialTypes k9)))), (aWa_initialValues, .inl (cJ, 20, .inr (.inl zW6.initialValues)))]) (As := []) (rest := []) ⟨hx, hb, hml, hown, hts⟩ xE_st hK hE hA (k_Co_clear l htr G cB cI cJ cZ cG aCo aCo_ops aCo_values aCo_extras aCo_ends aCo_elses aCo_heights aCo_targets aCo_labels aCo_labelTargets zCo hzCo (.ret x_1) e_2 ret_nb _) (xw_V 0 hts m_590 m_591 m_592 m_10 m_593 (by decide +kernel) ⟨(Nat.le_of_ble_eq_true rfl), (Nat.le_of_ble_eq_true rfl)⟩) hP_7 hD_7 hS_7 [0, 1, 2, 3, 4, 5, 6] [7, 8, 9, 10, 11, 12, 13, 14, 15, 16, 17, 18, 19, 20] rfl rfl (by decide +kernel) (by decide +kernel) (by decide +kernel) 0 9 rfl rfl rfl rfl hl.1 rfl (Nat.le_of_ble_eq_true rfl) d_Wa_clear_42 ⟨(Nat.le_of_ble_eq_true rfl), (Nat.le_of_ble_eq_true rfl)⟩ (fun v9 w9 H_8 locs_8 hp hP_8 hD_8 hS_8 => ?_) (fun x9 w9 H9 l9 hp _ _ _ => absurd hp (fun q9 => by obtain ⟨-, ho, -⟩ := q9; cases ho))
  clear hS_7 hD_7 hP_7
  obtain ⟨hx_1, ho, rfl⟩ := hp
  cases ho
  replace hP_8 : va_P G classes [(aEx, .inr (8, [.int (iI 0), .ref aEx_kinds, .ref aEx_indices, .ref aEx_nameLengths, .ref aEx_names])), (aEx_kinds, .inl (cI, 40, .inl (fun k9 => iI (zEx.kinds k9)))), (aEx_indices, .inl (cI, 40, .inl (fun k9 => iI (zEx.indices k9)))), (aEx_nameLengths, .inl (cI, 40, .inl (fun k9 => iI (zEx.nameLengths k9)))), (aEx_names, .inl (cB, 1200, .inl zEx.names)), (aWa, .inr (7, [.int (iI 0), .ref aWa_parameterCounts, .ref aWa_parameters, .ref aWa_results, .int (iI 0), .ref aWa_functionTypes, .ref aWa_starts, .ref aWa_localCounts, .ref aWa_locals, .int (bI false), .long 0, .long 0, .int (iI 0), .ref aWa_globalTypes, .ref aWa_globalsChange, .ref aWa_initialTypes, .ref aWa_initialValues, .ref aEx, .ref aCo])), (aWa_parameterCounts, .inl (cI, 20, .inl (fun k9 => iI (zW1.parameterCounts k9)))), (aWa_parameters, .inl (cI, 160, .inl (fun k9 => iI (zW1.parameters k9)))), (aWa_results, .inl (cI, 20, .inl (fun k9 => iI (zW1.results k9)))), (aWa_functionTypes, .inl (cI, 30, .inl (fun k9 => iI (zW3.functionTypes k9)))), (aWa_globalTypes, .inl (cI, 20, .inl (fun k9 => iI (zW6.globalTypes k9)))), (aWa_globalsChange, .inl (cZ, 20, .inl (fun k9 => bI (zW6.globalsChange k9)))), (aWa_initialTypes, .inl (cI, 20, .inl (fun k9 => iI (zW6.initialTypes k9)))), (aWa_initialValues, .inl (cJ, 20, .inr (.inl zW6.initialValues))), (aCo, .inr (9, [.int (iI x_1.size), .ref aCo_ops, .ref aCo_values, .ref aCo_extras, .ref aCo_ends, .ref aCo_elses, .ref aCo_heights, .ref aCo_targets, .int (iI x_1.labelCount), .ref aCo_labels, .ref aCo_labelTargets])), (aCo_ops, .inl (cI, 2000, .inl (fun k9 => iI (x_1.ops k9)))), (aCo_values, .inl (cJ, 2000, .inr (.inl x_1.values))), (aCo_extras, .inl (cI, 2000, .inl (fun k9 => iI (x_1.extras k9)))), (aCo_ends, .inl (cI, 2000, .inl (fun k9 => iI (x_1.ends k9)))), (aCo_elses, .inl (cI, 2000, .inl (fun k9 => iI (x_1.elses k9)))), (aCo_labels, .inl (cI, 2000, .inl (fun k9 => iI (x_1.labels k9))))] H_8 := hP_8
  replace hD_8 : va_D A [(aEx, .inr (8, [.int (iI 0), .ref aEx_kinds, .ref aEx_indices, .ref aEx_nameLengths, .ref aEx_names])), (aEx_kinds, .inl (cI, 40, .inl (fun k9 => iI (zEx.kinds k9)))), (aEx_indices, .inl (cI, 40, .inl (fun k9 => iI (zEx.indices k9)))), (aEx_nameLengths, .inl (cI, 40, .inl (fun k9 => iI (zEx.nameLengths k9)))), (aEx_names, .inl (cB, 1200, .inl zEx.names)), (aWa, .inr (7, [.int (iI 0), .ref aWa_parameterCounts, .ref aWa_parameters, .ref aWa_results, .int (iI 0), .ref aWa_functionTypes, .ref aWa_starts, .ref aWa_localCounts, .ref aWa_locals, .int (bI false), .long 0, .long 0, .int (iI 0), .ref aWa_globalTypes, .ref aWa_globalsChange, .ref aWa_initialTypes, .ref aWa_initialValues, .ref aEx, .ref aCo])), (aWa_parameterCounts, .inl (cI, 20, .inl (fun k9 => iI (zW1.parameterCounts k9)))), (aWa_parameters, .inl (cI, 160, .inl (fun k9 => iI (zW1.parameters k9)))), (aWa_results, .inl (cI, 20, .inl (fun k9 => iI (zW1.results k9)))), (aWa_functionTypes, .inl (cI, 30, .inl (fun k9 => iI (zW3.functionTypes k9)))), (aWa_globalTypes, .inl (cI, 20, .inl (fun k9 => iI (zW6.globalTypes k9)))), (aWa_globalsChange, .inl (cZ, 20, .inl (fun k9 => bI (zW6.globalsChange k9)))), (aWa_initialTypes, .inl (cI, 20, .inl (fun k9 => iI (zW6.initialTypes k9)))), (aWa_initialValues, .inl (cJ, 20, .inr (.inl zW6.initialValues))), (aCo, .inr (9, [.int (iI x_1.size), .ref aCo_ops, .ref aCo_values, .ref aCo_extras, .ref aCo_ends, .ref aCo_elses, .ref aCo_heights, .ref aCo_targets, .int (iI x_1.labelCount), .ref aCo_labels, .ref aCo_labelTargets])), (aCo_ops, .inl (cI, 2000, .inl (fun k9 => iI (x_1.ops k9)))), (aCo_values, .inl (cJ, 2000, .inr (.inl x_1.values))), (aCo_extras, .inl (cI, 2000, .inl (fun k9 => iI (x_1.extras k9)))), (aCo_ends, .inl (cI, 2000, .inl (fun k9 => iI (x_1.ends k9)))), (aCo_elses, .inl (cI, 2000, .inl (fun k9 => iI (x_1.elses k9)))), (aCo_labels, .inl (cI, 2000, .inl (fun k9 => iI (x_1.labels k9))))] := hD_8
  have hP_8 := hP_8.sub (ws' := [(aCo, .inr (9, [.int (iI x_1.size), .ref aCo_ops, .ref aCo_values, .ref aCo_extras, .ref aCo_ends, .ref aCo_elses, .ref aCo_heights, .ref aCo_targets, .int (iI x_1.labelCount), .ref aCo_labels, .ref aCo_labelTargets])), (aCo_ops, .inl (cI, 2000, .inl (fun k9 => iI (x_1.ops k9)))), (aCo_values, .inl (cJ, 2000, .inr (.inl x_1.values))), (aCo_extras, .inl (cI, 2000, .inl (fun k9 => iI (x_1.extras k9)))), (aCo_ends, .inl (cI, 2000, .inl (fun k9 => iI (x_1.ends k9)))), (aCo_elses, .inl (cI, 2000, .inl (fun k9 => iI (x_1.elses k9)))), (aCo_labels, .inl (cI, 2000, .inl (fun k9 => iI (x_1.labels k9)))), (aEx, .inr (8, [.int (iI 0), .ref aEx_kinds, .ref aEx_indices, .ref aEx_nameLengths, .ref aEx_names])), (aEx_kinds, .inl (cI, 40, .inl (fun k9 => iI (zEx.kinds k9)))), (aEx_indices, .inl (cI, 40, .inl (fun k9 => iI (zEx.indices k9)))), (aEx_nameLengths, .inl (cI, 40, .inl (fun k9 => iI (zEx.nameLengths k9)))), (aEx_names, .inl (cB, 1200, .inl zEx.names)), (aWa, .inr (7, [.int (iI 0), .ref aWa_parameterCounts, .ref aWa_parameters, .ref aWa_results, .int (iI 0), .ref aWa_functionTypes, .ref aWa_starts, .ref aWa_localCounts, .ref aWa_locals, .int (bI false), .long 0, .long 0, .int (iI 0), .ref aWa_globalTypes, .ref aWa_globalsChange, .ref aWa_initialTypes, .ref aWa_initialValues, .ref aEx, .ref aCo])), (aWa_parameterCounts, .inl (cI, 20, .inl (fun k9 => iI (zW1.parameterCounts k9)))), (aWa_parameters, .inl (cI, 160, .inl (fun k9 => iI (zW1.parameters k9)))), (aWa_results, .inl (cI, 20, .inl (fun k9 => iI (zW1.results k9)))), (aWa_functionTypes, .inl (cI, 30, .inl (fun k9 => iI (zW3.functionTypes k9)))), (aWa_globalTypes, .inl (cI, 20, .inl (fun k9 => iI (zW6.globalTypes k9)))), (aWa_globalsChange, .inl (cZ, 20, .inl (fun k9 => bI (zW6.globalsChange k9)))), (aWa_initialTypes, .inl (cI, 20, .inl (fun k9 => iI (zW6.initialTypes k9)))), (aWa_initialValues, .inl (cJ, 20, .inr (.inl zW6.initialValues)))]) [14, 15, 16, 17, 18, 19, 20, 0, 1, 2, 3, 4, 5, 6, 7, 8, 9, 10, 11, 12, 13] rfl
  have hD_8 := hD_8.sub (ws' := [(aCo, .inr (9, [.int (iI x_1.size), .ref aCo_ops, .ref aCo_values, .ref aCo_extras, .ref aCo_ends, .ref aCo_elses, .ref aCo_heights, .ref aCo_targets, .int (iI x_1.labelCount), .ref aCo_labels, .ref aCo_labelTargets])), (aCo_ops, .inl (cI, 2000, .inl (fun k9 => iI (x_1.ops k9)))), (aCo_values, .inl (cJ, 2000, .inr (.inl x_1.values))), (aCo_extras, .inl (cI, 2000, .inl (fun k9 => iI (x_1.extras k9)))), (aCo_ends, .inl (cI, 2000, .inl (fun k9 => iI (x_1.ends k9)))), (aCo_elses, .inl (cI, 2000, .inl (fun k9 => iI (x_1.elses k9)))), (aCo_labels, .inl (cI, 2000, .inl (fun k9 => iI (x_1.labels k9)))), (aEx, .inr (8, [.int (iI 0), .ref aEx_kinds, .ref aEx_indices, .ref aEx_nameLengths, .ref aEx_names])), (aEx_kinds, .inl (cI, 40, .inl (fun k9 => iI (zEx.kinds k9)))), (aEx_indices, .inl (cI, 40, .inl (fun k9 => iI (zEx.indices k9)))), (aEx_nameLengths, .inl (cI, 40, .inl (fun k9 => iI (zEx.nameLengths k9)))), (aEx_names, .inl (cB, 1200, .inl zEx.names)), (aWa, .inr (7, [.int (iI 0), .ref aWa_parameterCounts, .ref aWa_parameters, .ref aWa_results, .int (iI 0), .ref aWa_functionTypes, .ref aWa_starts, .ref aWa_localCounts, .ref aWa_locals, .int (bI false), .long 0, .long 0, .int (iI 0), .ref aWa_globalTypes, .ref aWa_globalsChange, .ref aWa_initialTypes, .ref aWa_initialValues, .ref aEx, .ref aCo])), (aWa_parameterCounts, .inl (cI, 20, .inl (fun k9 => iI (zW1.parameterCounts k9)))), (aWa_parameters, .inl (cI, 160, .inl (fun k9 => iI (zW1.parameters k9)))), (aWa_results, .inl (cI, 20, .inl (fun k9 => iI (zW1.results k9)))), (aWa_functionTypes, .inl (cI, 30, .inl (fun k9 => iI (zW3.functionTypes k9)))), (aWa_globalTypes, .inl (cI, 20, .inl (fun k9 => iI (zW6.globalTypes k9)))), (aWa_globalsChange, .inl (cZ, 20, .inl (fun k9 => bI (zW6.globalsChange k9)))), (aWa_initialTypes, .inl (cI, 20, .inl (fun k9 => iI (zW6.initialTypes k9)))), (aWa_initialValues, .inl (cJ, 20, .inr (.inl zW6.initialValues)))]) [14, 15, 16, 17, 18, 19, 20, 0, 1, 2, 3, 4, 5, 6, 7, 8, 9, 10, 11, 12, 13] (by decide +kernel) rfl
  exact ex_W (fun _ h => ex_mq h) (W.vret hx hb hr (fun t ht hW => ⟨⟨_, ozr hf ⟨⟨hx_1, (KEx.Ok.mk (show R32 (0) by decide) hzEx.kinds hzEx.indices hzEx.nameLengths : KEx.Ok (KEx.mk 0 zEx.kinds zEx.indices zEx.nameLengths zEx.names)), (KW1.Ok.mk (show R32 (0) by decide) hzW1.parameterCounts hzW1.parameters hzW1.results : KW1.Ok (KW1.mk 0 zW1.parameterCounts zW1.parameters zW1.results)), (KW3.Ok.mk (show R32 (0) by decide) hzW3.functionTypes : KW3.Ok (KW3.mk 0 zW3.functionTypes)), (KW5.Ok.mk  : KW5.Ok (KW5.mk false 0 0)), (KW6.Ok.mk (show R32 (0) by decide) hzW6.globalTypes hzW6.initialTypes : KW6.Ok (KW6.mk 0 zW6.globalTypes zW6.globalsChange zW6.initialTypes zW6.initialValues))⟩, rfl, rfl⟩, by rw [ht]; exact hP_8, hD_8⟩, hS_8.F ht⟩) hS_8.2.2 d_Wa_clear_45)
set_option maxHeartbeats 8000000 in
set_option maxRecDepth 100000 in
theorem k_Wa_parameterCountOf (l : Launch) (htr : l.stackTraces = false) (G : va_G) (cB cI cJ cZ cG : ClassId) (aWa : Nat) (aWa_parameterCounts : Nat) (aWa_parameters : Nat) (aWa_results : Nat) (aWa_functionTypes : Nat) (aWa_starts : Nat) (aWa_localCounts : Nat) (aWa_locals : Nat) (aWa_globalTypes : Nat) (aWa_globalsChange : Nat) (aWa_initialTypes : Nat) (aWa_initialValues : Nat) (aEx : Nat) (aCo : Nat) (zW1 : KW1) (zW3 : KW3) (zW5 : KW5) (zW6 : KW6) (hzW1 : KW1.Ok zW1) (hzW3 : KW3.Ok zW3) (hzW5 : KW5.Ok zW5) (hzW6 : KW6.Ok zW6) (v_f : Int) (hv_f : R32 v_f) (R9 : Out Empty (Int)) (hf : f_Wa_parameterCountOf zW1 zW3 v_f = R9) (hnb : R9 ≠ .bad) (sz : Nat) : MetX l y_Wa_parameterCountOf (wx y_Wa_parameterCountOf b_Wa_parameterCountOf 2 (some .int)) { frames := 0, cells := 0, slots := 0, locals := 0 } (XP G classes (xtys cB cI cJ cZ cG) xE [.ref aWa, .int (iI v_f)] [(aWa, .inr (7, [.int (iI zW1.typeCount), .ref aWa_parameterCounts, .ref aWa_parameters, .ref aWa_results, .int (iI zW3.functionCount), .ref aWa_functionTypes, .ref aWa_starts, .ref aWa_localCounts, .ref aWa_locals, .int (bI zW5.hasMemory), .long zW5.pagesAtFirst, .long zW5.pagesMost, .int (iI zW6.globalCount), .ref aWa_globalTypes, .ref aWa_globalsChange, .ref aWa_initialTypes, .ref aWa_initialValues, .ref aEx, .ref aCo])), (aWa_parameterCounts, .inl (cI, 20, .inl (fun k9 => iI (zW1.parameterCounts k9)))), (aWa_functionTypes, .inl (cI, 30, .inl (fun k9 => iI (zW3.functionTypes k9))))] sz) (XQ G classes (va_A [(aWa, .inr (7, [.int (iI zW1.typeCount), .ref aWa_parameterCounts, .ref aWa_parameters, .ref aWa_results, .int (iI zW3.functionCount), .ref aWa_functionTypes, .ref aWa_starts, .ref aWa_localCounts, .ref aWa_locals, .int (bI zW5.hasMemory), .long zW5.pagesAtFirst, .long zW5.pagesMost, .int (iI zW6.globalCount), .ref aWa_globalTypes, .ref aWa_globalsChange, .ref aWa_initialTypes, .ref aWa_initialValues, .ref aEx, .ref aCo])), (aWa_parameterCounts, .inl (cI, 20, .inl (fun k9 => iI (zW1.parameterCounts k9)))), (aWa_functionTypes, .inl (cI, 30, .inl (fun k9 => iI (zW3.functionTypes k9))))] sz) (fun o w1 => ozp R9 (fun x9 => (R32 x9) ∧ o = .returned (some (.int (iI x9))) ∧ w1 = [(aWa, .inr (7, [.int (iI zW1.typeCount), .ref aWa_parameterCounts, .ref aWa_parameters, .ref aWa_results, .int (iI zW3.functionCount), .ref aWa_functionTypes, .ref aWa_starts, .ref aWa_localCounts, .ref aWa_locals, .int (bI zW5.hasMemory), .long zW5.pagesAtFirst, .long zW5.pagesMost, .int (iI zW6.globalCount), .ref aWa_globalTypes, .ref aWa_globalsChange, .ref aWa_initialTypes, .ref aWa_initialValues, .ref aEx, .ref aCo])), (aWa_parameterCounts, .inl (cI, 20, .inl (fun k9 => iI (zW1.parameterCounts k9)))), (aWa_functionTypes, .inl (cI, 30, .inl (fun k9 => iI (zW3.functionTypes k9))))]) (fun _ => False))) 0 0 (va_A [(aWa, .inr (7, [.int (iI zW1.typeCount), .ref aWa_parameterCounts, .ref aWa_parameters, .ref aWa_results, .int (iI zW3.functionCount), .ref aWa_functionTypes, .ref aWa_starts, .ref aWa_localCounts, .ref aWa_locals, .int (bI zW5.hasMemory), .long zW5.pagesAtFirst, .long zW5.pagesMost, .int (iI zW6.globalCount), .ref aWa_globalTypes, .ref aWa_globalsChange, .ref aWa_initialTypes, .ref aWa_initialValues, .ref aEx, .ref aCo])), (aWa_parameterCounts, .inl (cI, 20, .inl (fun k9 => iI (zW1.parameterCounts k9)))), (aWa_functionTypes, .inl (cI, 30, .inl (fun k9 => iI (zW3.functionTypes k9))))] sz) := by
  refine ex_ofW (cc := b_Wa_parameterCountOf) (maxL := 2) (ret := (some .int)) (by decide) rfl ?_
  intro p e s m args below meth c s₁ B hml hno hv
  obtain ⟨rfl, hsz, hP, hK, hD0, hE⟩ := hv
  have hx := B.exec
  have hb := B.bytes
  have hr := B.returns
  have hts : ∀ w ∈ lw_good, w.before _ s = true := fun w h => atoms_spec (ws := wx y_Wa_parameterCountOf b_Wa_parameterCountOf 2 (some .int)) B.pre w (List.mem_cons_of_mem _ h)
  have hown : s.vm.findClass R_Wa = some m.cls := findClass_of_methodNamed B.named
  have hlocks := B.notSynchronized
  subst hsz
  have hNS := xx_nostat hP
  have hD := hD0.self (sz := s.heap.size)
  generalize hAe : va_A [(aWa, .inr (7, [.int (iI zW1.typeCount), .ref aWa_parameterCounts, .ref aWa_parameters, .ref aWa_results, .int (iI zW3.functionCount), .ref aWa_functionTypes, .ref aWa_starts, .ref aWa_localCounts, .ref aWa_locals, .int (bI zW5.hasMemory), .long zW5.pagesAtFirst, .long zW5.pagesMost, .int (iI zW6.globalCount), .ref aWa_globalTypes, .ref aWa_globalsChange, .ref aWa_initialTypes, .ref aWa_initialValues, .ref aEx, .ref aCo])), (aWa_parameterCounts, .inl (cI, 20, .inl (fun k9 => iI (zW1.parameterCounts k9)))), (aWa_functionTypes, .inl (cI, 30, .inl (fun k9 => iI (zW3.functionTypes k9))))] s.heap.size = A at hD hE hNS ⊢
  have hA : ∀ q : Nat, s.heap.size ≤ q → A q := fun q h => by rw [← hAe]; exact Or.inr h
  have hS : va_S A s.heap s.heap [] := va_S.rf
  have hl := lv_entry ([.ref aWa, .int (iI v_f)]) (n := 2) (Nat.le_of_ble_eq_true rfl)
  rw [lg_entry_eq]
  generalize (lg_sl ([.ref aWa, .int (iI v_f)]) ++ List.replicate (2 - (lg_sl ([.ref aWa, .int (iI v_f)])).length) Slot.unset).toArray = ls at hl ⊢
  have hl : lv_has ls 2 [(0, .ref aWa), (1, .int (iI v_f))] := hl
  unfold f_Wa_parameterCountOf at hf
  refine lv_aload_n hx hb d_Wa_parameterCountOf_0 rfl (lv_at hl 0 rfl) ?_
  refine va_get (D := G) (ci := 7) (v := .ref aWa_parameterCounts) (C := R_Wa) (T := F_Wa) (N := 19) hx hb hts i_Wa hown hK hP 0 rfl rfl 1 (by decide) (hts _ m_317) (fun _ h9 => h9) rfl d_Wa_parameterCountOf_1 ?_
  refine lv_aload_n hx hb d_Wa_parameterCountOf_4 rfl (lv_at hl 0 rfl) ?_
  refine va_get (D := G) (ci := 7) (v := .ref aWa_functionTypes) (C := R_Wa) (T := F_Wa) (N := 19) hx hb hts i_Wa hown hK hP 0 rfl rfl 5 (by decide) (hts _ m_328) (fun _ h9 => h9) rfl d_Wa_parameterCountOf_5 ?_
  refine lv_iload_n hx hb d_Wa_parameterCountOf_8 rfl (lv_at hl 1 rfl) ?_
  replace hf := grd hnb hf
  obtain ⟨g_1, hf⟩ := hf
  refine va_iald hx hb hK hP 2 1 rfl rfl (vp_in_iI hv_f g_1) d_Wa_parameterCountOf_9 ?_
  refine W.eq (g2 := F0 m 10 ls [.int (iI (zW3.functionTypes v_f.toNat)), .ref aWa_parameterCounts]) (by rw [iI_clamp hv_f] <;> rfl) ?_
  replace hf := grd hnb hf
  obtain ⟨g_2, hf⟩ := hf
  refine va_iald hx hb hK hP 1 1 rfl rfl (vp_in_iI (hzW3.functionTypes _) g_2) d_Wa_parameterCountOf_10 ?_
  refine W.eq (g2 := F0 m 11 ls [.int (iI (zW1.parameterCounts (zW3.functionTypes v_f.toNat).toNat))]) (by rw [iI_clamp (hzW3.functionTypes _)] <;> rfl) ?_
  exact ex_W (fun _ h => ex_mq h) (W.iret (v := iI (zW1.parameterCounts (zW3.functionTypes v_f.toNat).toNat)) hx hb hr (fun t ht hW => ⟨⟨_, ozr hf ⟨(hzW1.parameterCounts _), rfl, rfl⟩, by rw [ht]; exact hP, hD⟩, hS.F ht⟩) hS.2.2 d_Wa_parameterCountOf_11)
set_option maxHeartbeats 8000000 in
set_option maxRecDepth 100000 in
theorem k_Wa_parameterTypeOf (l : Launch) (htr : l.stackTraces = false) (G : va_G) (cB cI cJ cZ cG : ClassId) (aWa : Nat) (aWa_parameterCounts : Nat) (aWa_parameters : Nat) (aWa_results : Nat) (aWa_functionTypes : Nat) (aWa_starts : Nat) (aWa_localCounts : Nat) (aWa_locals : Nat) (aWa_globalTypes : Nat) (aWa_globalsChange : Nat) (aWa_initialTypes : Nat) (aWa_initialValues : Nat) (aEx : Nat) (aCo : Nat) (zW1 : KW1) (zW3 : KW3) (zW5 : KW5) (zW6 : KW6) (hzW1 : KW1.Ok zW1) (hzW3 : KW3.Ok zW3) (hzW5 : KW5.Ok zW5) (hzW6 : KW6.Ok zW6) (v_f : Int) (v_p : Int) (hv_f : R32 v_f) (hv_p : R32 v_p) (R9 : Out Empty (Int)) (hf : f_Wa_parameterTypeOf zW1 zW3 v_f v_p = R9) (hnb : R9 ≠ .bad) (sz : Nat) : MetX l y_Wa_parameterTypeOf (wx y_Wa_parameterTypeOf b_Wa_parameterTypeOf 3 (some .int)) { frames := 0, cells := 0, slots := 0, locals := 0 } (XP G classes (xtys cB cI cJ cZ cG) xE [.ref aWa, .int (iI v_f), .int (iI v_p)] [(aWa, .inr (7, [.int (iI zW1.typeCount), .ref aWa_parameterCounts, .ref aWa_parameters, .ref aWa_results, .int (iI zW3.functionCount), .ref aWa_functionTypes, .ref aWa_starts, .ref aWa_localCounts, .ref aWa_locals, .int (bI zW5.hasMemory), .long zW5.pagesAtFirst, .long zW5.pagesMost, .int (iI zW6.globalCount), .ref aWa_globalTypes, .ref aWa_globalsChange, .ref aWa_initialTypes, .ref aWa_initialValues, .ref aEx, .ref aCo])), (aWa_parameters, .inl (cI, 160, .inl (fun k9 => iI (zW1.parameters k9)))), (aWa_functionTypes, .inl (cI, 30, .inl (fun k9 => iI (zW3.functionTypes k9))))] sz) (XQ G classes (va_A [(aWa, .inr (7, [.int (iI zW1.typeCount), .ref aWa_parameterCounts, .ref aWa_parameters, .ref aWa_results, .int (iI zW3.functionCount), .ref aWa_functionTypes, .ref aWa_starts, .ref aWa_localCounts, .ref aWa_locals, .int (bI zW5.hasMemory), .long zW5.pagesAtFirst, .long zW5.pagesMost, .int (iI zW6.globalCount), .ref aWa_globalTypes, .ref aWa_globalsChange, .ref aWa_initialTypes, .ref aWa_initialValues, .ref aEx, .ref aCo])), (aWa_parameters, .inl (cI, 160, .inl (fun k9 => iI (zW1.parameters k9)))), (aWa_functionTypes, .inl (cI, 30, .inl (fun k9 => iI (zW3.functionTypes k9))))] sz) (fun o w1 => ozp R9 (fun x9 => (R32 x9) ∧ o = .returned (some (.int (iI x9))) ∧ w1 = [(aWa, .inr (7, [.int (iI zW1.typeCount), .ref aWa_parameterCounts, .ref aWa_parameters, .ref aWa_results, .int (iI zW3.functionCount), .ref aWa_functionTypes, .ref aWa_starts, .ref aWa_localCounts, .ref aWa_locals, .int (bI zW5.hasMemory), .long zW5.pagesAtFirst, .long zW5.pagesMost, .int (iI zW6.globalCount), .ref aWa_globalTypes, .ref aWa_globalsChange, .ref aWa_initialTypes, .ref aWa_initialValues, .ref aEx, .ref aCo])), (aWa_parameters, .inl (cI, 160, .inl (fun k9 => iI (zW1.parameters k9)))), (aWa_functionTypes, .inl (cI, 30, .inl (fun k9 => iI (zW3.functionTypes k9))))]) (fun _ => False))) 0 0 (va_A [(aWa, .inr (7, [.int (iI zW1.typeCount), .ref aWa_parameterCounts, .ref aWa_parameters, .ref aWa_results, .int (iI zW3.functionCount), .ref aWa_functionTypes, .ref aWa_starts, .ref aWa_localCounts, .ref aWa_locals, .int (bI zW5.hasMemory), .long zW5.pagesAtFirst, .long zW5.pagesMost, .int (iI zW6.globalCount), .ref aWa_globalTypes, .ref aWa_globalsChange, .ref aWa_initialTypes, .ref aWa_initialValues, .ref aEx, .ref aCo])), (aWa_parameters, .inl (cI, 160, .inl (fun k9 => iI (zW1.parameters k9)))), (aWa_functionTypes, .inl (cI, 30, .inl (fun k9 => iI (zW3.functionTypes k9))))] sz) := by
  refine ex_ofW (cc := b_Wa_parameterTypeOf) (maxL := 3) (ret := (some .int)) (by decide) rfl ?_
  intro p e s m args below meth c s₁ B hml hno hv
  obtain ⟨rfl, hsz, hP, hK, hD0, hE⟩ := hv
  have hx := B.exec
  have hb := B.bytes
  have hr := B.returns
  have hts : ∀ w ∈ lw_good, w.before _ s = true := fun w h => atoms_spec (ws := wx y_Wa_parameterTypeOf b_Wa_parameterTypeOf 3 (some .int)) B.pre w (List.mem_cons_of_mem _ h)
  have hown : s.vm.findClass R_Wa = some m.cls := findClass_of_methodNamed B.named
  have hlocks := B.notSynchronized
  subst hsz
  have hNS := xx_nostat hP
  have hD := hD0.self (sz := s.heap.size)
  generalize hAe : va_A [(aWa, .inr (7, [.int (iI zW1.typeCount), .ref aWa_parameterCounts, .ref aWa_parameters, .ref aWa_results, .int (iI zW3.functionCount), .ref aWa_functionTypes, .ref aWa_starts, .ref aWa_localCounts, .ref aWa_locals, .int (bI zW5.hasMemory), .long zW5.pagesAtFirst, .long zW5.pagesMost, .int (iI zW6.globalCount), .ref aWa_globalTypes, .ref aWa_globalsChange, .ref aWa_initialTypes, .ref aWa_initialValues, .ref aEx, .ref aCo])), (aWa_parameters, .inl (cI, 160, .inl (fun k9 => iI (zW1.parameters k9)))), (aWa_functionTypes, .inl (cI, 30, .inl (fun k9 => iI (zW3.functionTypes k9))))] s.heap.size = A at hD hE hNS ⊢
  have hA : ∀ q : Nat, s.heap.size ≤ q → A q := fun q h => by rw [← hAe]; exact Or.inr h
  have hS : va_S A s.heap s.heap [] := va_S.rf
  have hl := lv_entry ([.ref aWa, .int (iI v_f), .int (iI v_p)]) (n := 3) (Nat.le_of_ble_eq_true rfl)
  rw [lg_entry_eq]
  generalize (lg_sl ([.ref aWa, .int (iI v_f), .int (iI v_p)]) ++ List.replicate (3 - (lg_sl ([.ref aWa, .int (iI v_f), .int (iI v_p)])).length) Slot.unset).toArray = ls at hl ⊢
  have hl : lv_has ls 3 [(0, .ref aWa), (1, .int (iI v_f)), (2, .int (iI v_p))] := hl
  unfold f_Wa_parameterTypeOf at hf
  refine lv_aload_n hx hb d_Wa_parameterTypeOf_0 rfl (lv_at hl 0 rfl) ?_
  refine va_get (D := G) (ci := 7) (v := .ref aWa_parameters) (C := R_Wa) (T := F_Wa) (N := 19) hx hb hts i_Wa hown hK hP 0 rfl rfl 2 (by decide) (hts _ m_319) (fun _ h9 => h9) rfl d_Wa_parameterTypeOf_1 ?_
  refine lv_aload_n hx hb d_Wa_parameterTypeOf_4 rfl (lv_at hl 0 rfl) ?_
  refine va_get (D := G) (ci := 7) (v := .ref aWa_functionTypes) (C := R_Wa) (T := F_Wa) (N := 19) hx hb hts i_Wa hown hK hP 0 rfl rfl 5 (by decide) (hts _ m_328) (fun _ h9 => h9) rfl d_Wa_parameterTypeOf_5 ?_
  refine lv_iload_n hx hb d_Wa_parameterTypeOf_8 rfl (lv_at hl 1 rfl) ?_
  replace hf := grd hnb hf
  obtain ⟨g_1, hf⟩ := hf
  refine va_iald hx hb hK hP 2 1 rfl rfl (vp_in_iI hv_f g_1) d_Wa_parameterTypeOf_9 ?_
  refine W.eq (g2 := F0 m 10 ls [.int (iI (zW3.functionTypes v_f.toNat)), .ref aWa_parameters]) (by rw [iI_clamp hv_f] <;> rfl) ?_
  refine lv_bipush (v := iI 8) hx hb d_Wa_parameterTypeOf_10 (by decide) ?_
  refine lv_imul hx hb d_Wa_parameterTypeOf_12 ?_
  refine lv_topi (fun x9 e9 => ?_)
  obtain rfl : x9 = iI ((zW3.functionTypes v_f.toNat) * 8) := e9.trans (iI_mul _ _)
  replace hf := grd hnb hf
  obtain ⟨g_2, hf⟩ := hf
  refine lv_iload_n hx hb d_Wa_parameterTypeOf_13 rfl (lv_at hl 2 rfl) ?_
  refine lv_iadd hx hb d_Wa_parameterTypeOf_14 ?_
  refine lv_topi (fun x9 e9 => ?_)
  obtain rfl : x9 = iI (((zW3.functionTypes v_f.toNat) * 8) + v_p) := e9.trans (iI_add _ _)
  replace hf := grd hnb hf
  obtain ⟨g_3, hf⟩ := hf
  replace hf := grd hnb hf
  obtain ⟨g_4, hf⟩ := hf
  refine va_iald hx hb hK hP 1 1 rfl rfl (vp_in_iI g_3 g_4) d_Wa_parameterTypeOf_15 ?_
  refine W.eq (g2 := F0 m 16 ls [.int (iI (zW1.parameters (((zW3.functionTypes v_f.toNat) * 8) + v_p).toNat))]) (by rw [iI_clamp g_3] <;> rfl) ?_
  exact ex_W (fun _ h => ex_mq h) (W.iret (v := iI (zW1.parameters (((zW3.functionTypes v_f.toNat) * 8) + v_p).toNat)) hx hb hr (fun t ht hW => ⟨⟨_, ozr hf ⟨(hzW1.parameters _), rfl, rfl⟩, by rw [ht]; exact hP, hD⟩, hS.F ht⟩) hS.2.2 d_Wa_parameterTypeOf_16)
set_option maxHeartbeats 8000000 in
set_option maxRecDepth 100000 in
theorem k_Wa_resultOf (l : Launch) (htr : l.stackTraces = false) (G : va_G) (cB cI cJ cZ cG : ClassId) (aWa : Nat) (aWa_parameterCounts : Nat) (aWa_parameters : Nat) (aWa_results : Nat) (aWa_functionTypes : Nat) (aWa_starts : Nat) (aWa_localCounts : Nat) (aWa_locals : Nat) (aWa_globalTypes : Nat) (aWa_globalsChange : Nat) (aWa_initialTypes : Nat) (aWa_initialValues : Nat) (aEx : Nat) (aCo : Nat) (zW1 : KW1) (zW3 : KW3) (zW5 : KW5) (zW6 : KW6) (hzW1 : KW1.Ok zW1) (hzW3 : KW3.Ok zW3) (hzW5 : KW5.Ok zW5) (hzW6 : KW6.Ok zW6) (v_f : Int) (hv_f : R32 v_f) (R9 : Out Empty (Int)) (hf : f_Wa_resultOf zW1 zW3 v_f = R9) (hnb : R9 ≠ .bad) (sz : Nat) : MetX l y_Wa_resultOf (wx y_Wa_resultOf b_Wa_resultOf 2 (some .int)) { frames := 0, cells := 0, slots := 0, locals := 0 } (XP G classes (xtys cB cI cJ cZ cG) xE [.ref aWa, .int (iI v_f)] [(aWa, .inr (7, [.int (iI zW1.typeCount), .ref aWa_parameterCounts, .ref aWa_parameters, .ref aWa_results, .int (iI zW3.functionCount), .ref aWa_functionTypes, .ref aWa_starts, .ref aWa_localCounts, .ref aWa_locals, .int (bI zW5.hasMemory), .long zW5.pagesAtFirst, .long zW5.pagesMost, .int (iI zW6.globalCount), .ref aWa_globalTypes, .ref aWa_globalsChange, .ref aWa_initialTypes, .ref aWa_initialValues, .ref aEx, .ref aCo])), (aWa_results, .inl (cI, 20, .inl (fun k9 => iI (zW1.results k9)))), (aWa_functionTypes, .inl (cI, 30, .inl (fun k9 => iI (zW3.functionTypes k9))))] sz) (XQ G classes (va_A [(aWa, .inr (7, [.int (iI zW1.typeCount), .ref aWa_parameterCounts, .ref aWa_parameters, .ref aWa_results, .int (iI zW3.functionCount), .ref aWa_functionTypes, .ref aWa_starts, .ref aWa_localCounts, .ref aWa_locals, .int (bI zW5.hasMemory), .long zW5.pagesAtFirst, .long zW5.pagesMost, .int (iI zW6.globalCount), .ref aWa_globalTypes, .ref aWa_globalsChange, .ref aWa_initialTypes, .ref aWa_initialValues, .ref aEx, .ref aCo])), (aWa_results, .inl (cI, 20, .inl (fun k9 => iI (zW1.results k9)))), (aWa_functionTypes, .inl (cI, 30, .inl (fun k9 => iI (zW3.functionTypes k9))))] sz) (fun o w1 => ozp R9 (fun x9 => (R32 x9) ∧ o = .returned (some (.int (iI x9))) ∧ w1 = [(aWa, .inr (7, [.int (iI zW1.typeCount), .ref aWa_parameterCounts, .ref aWa_parameters, .ref aWa_results, .int (iI zW3.functionCount), .ref aWa_functionTypes, .ref aWa_starts, .ref aWa_localCounts, .ref aWa_locals, .int (bI zW5.hasMemory), .long zW5.pagesAtFirst, .long zW5.pagesMost, .int (iI zW6.globalCount), .ref aWa_globalTypes, .ref aWa_globalsChange, .ref aWa_initialTypes, .ref aWa_initialValues, .ref aEx, .ref aCo])), (aWa_results, .inl (cI, 20, .inl (fun k9 => iI (zW1.results k9)))), (aWa_functionTypes, .inl (cI, 30, .inl (fun k9 => iI (zW3.functionTypes k9))))]) (fun _ => False))) 0 0 (va_A [(aWa, .inr (7, [.int (iI zW1.typeCount), .ref aWa_parameterCounts, .ref aWa_parameters, .ref aWa_results, .int (iI zW3.functionCount), .ref aWa_functionTypes, .ref aWa_starts, .ref aWa_localCounts, .ref aWa_locals, .int (bI zW5.hasMemory), .long zW5.pagesAtFirst, .long zW5.pagesMost, .int (iI zW6.globalCount), .ref aWa_globalTypes, .ref aWa_globalsChange, .ref aWa_initialTypes, .ref aWa_initialValues, .ref aEx, .ref aCo])), (aWa_results, .inl (cI, 20, .inl (fun k9 => iI (zW1.results k9)))), (aWa_functionTypes, .inl (cI, 30, .inl (fun k9 => iI (zW3.functionTypes k9))))] sz) := by
  refine ex_ofW (cc := b_Wa_resultOf) (maxL := 2) (ret := (some .int)) (by decide) rfl ?_
  intro p e s m args below meth c s₁ B hml hno hv
  obtain ⟨rfl, hsz, hP, hK, hD0, hE⟩ := hv
  have hx := B.exec
  have hb := B.bytes
  have hr := B.returns
  have hts : ∀ w ∈ lw_good, w.before _ s = true := fun w h => atoms_spec (ws := wx y_Wa_resultOf b_Wa_resultOf 2 (some .int)) B.pre w (List.mem_cons_of_mem _ h)
  have hown : s.vm.findClass R_Wa = some m.cls := findClass_of_methodNamed B.named
  have hlocks := B.notSynchronized
  subst hsz
  have hNS := xx_nostat hP
  have hD := hD0.self (sz := s.heap.size)
  generalize hAe : va_A [(aWa, .inr (7, [.int (iI zW1.typeCount), .ref aWa_parameterCounts, .ref aWa_parameters, .ref aWa_results, .int (iI zW3.functionCount), .ref aWa_functionTypes, .ref aWa_starts, .ref aWa_localCounts, .ref aWa_locals, .int (bI zW5.hasMemory), .long zW5.pagesAtFirst, .long zW5.pagesMost, .int (iI zW6.globalCount), .ref aWa_globalTypes, .ref aWa_globalsChange, .ref aWa_initialTypes, .ref aWa_initialValues, .ref aEx, .ref aCo])), (aWa_results, .inl (cI, 20, .inl (fun k9 => iI (zW1.results k9)))), (aWa_functionTypes, .inl (cI, 30, .inl (fun k9 => iI (zW3.functionTypes k9))))] s.heap.size = A at hD hE hNS ⊢
  have hA : ∀ q : Nat, s.heap.size ≤ q → A q := fun q h => by rw [← hAe]; exact Or.inr h
  have hS : va_S A s.heap s.heap [] := va_S.rf
  have hl := lv_entry ([.ref aWa, .int (iI v_f)]) (n := 2) (Nat.le_of_ble_eq_true rfl)
  rw [lg_entry_eq]
  generalize (lg_sl ([.ref aWa, .int (iI v_f)]) ++ List.replicate (2 - (lg_sl ([.ref aWa, .int (iI v_f)])).length) Slot.unset).toArray = ls at hl ⊢
  have hl : lv_has ls 2 [(0, .ref aWa), (1, .int (iI v_f))] := hl
  unfold f_Wa_resultOf at hf
  refine lv_aload_n hx hb d_Wa_resultOf_0 rfl (lv_at hl 0 rfl) ?_
  refine va_get (D := G) (ci := 7) (v := .ref aWa_results) (C := R_Wa) (T := F_Wa) (N := 19) hx hb hts i_Wa hown hK hP 0 rfl rfl 3 (by decide) (hts _ m_321) (fun _ h9 => h9) rfl d_Wa_resultOf_1 ?_
  refine lv_aload_n hx hb d_Wa_resultOf_4 rfl (lv_at hl 0 rfl) ?_
  refine va_get (D := G) (ci := 7) (v := .ref aWa_functionTypes) (C := R_Wa) (T := F_Wa) (N := 19) hx hb hts i_Wa hown hK hP 0 rfl rfl 5 (by decide) (hts _ m_328) (fun _ h9 => h9) rfl d_Wa_resultOf_5 ?_
  refine lv_iload_n hx hb d_Wa_resultOf_8 rfl (lv_at hl 1 rfl) ?_
  replace hf := grd hnb hf
  obtain ⟨g_1, hf⟩ := hf
  refine va_iald hx hb hK hP 2 1 rfl rfl (vp_in_iI hv_f g_1) d_Wa_resultOf_9 ?_
  refine W.eq (g2 := F0 m 10 ls [.int (iI (zW3.functionTypes v_f.toNat)), .ref aWa_results]) (by rw [iI_clamp hv_f] <;> rfl) ?_
  replace hf := grd hnb hf
  obtain ⟨g_2, hf⟩ := hf
  refine va_iald hx hb hK hP 1 1 rfl rfl (vp_in_iI (hzW3.functionTypes _) g_2) d_Wa_resultOf_10 ?_
  refine W.eq (g2 := F0 m 11 ls [.int (iI (zW1.results (zW3.functionTypes v_f.toNat).toNat))]) (by rw [iI_clamp (hzW3.functionTypes _)] <;> rfl) ?_
  exact ex_W (fun _ h => ex_mq h) (W.iret (v := iI (zW1.results (zW3.functionTypes v_f.toNat).toNat)) hx hb hr (fun t ht hW => ⟨⟨_, ozr hf ⟨(hzW1.results _), rfl, rfl⟩, by rw [ht]; exact hP, hD⟩, hS.F ht⟩) hS.2.2 d_Wa_resultOf_11)
set_option maxHeartbeats 8000000 in
set_option maxRecDepth 100000 in
theorem k_Wa_variableTypeOf (l : Launch) (htr : l.stackTraces = false) (G : va_G) (cB cI cJ cZ cG : ClassId) (aWa : Nat) (aWa_parameterCounts : Nat) (aWa_parameters : Nat) (aWa_results : Nat) (aWa_functionTypes : Nat) (aWa_starts : Nat) (aWa_localCounts : Nat) (aWa_locals : Nat) (aWa_globalTypes : Nat) (aWa_globalsChange : Nat) (aWa_initialTypes : Nat) (aWa_initialValues : Nat) (aEx : Nat) (aCo : Nat) (zW1 : KW1) (zW3 : KW3) (zWj : KWj) (zW5 : KW5) (zW6 : KW6) (hzW1 : KW1.Ok zW1) (hzW3 : KW3.Ok zW3) (hzWj : KWj.Ok zWj) (hzW5 : KW5.Ok zW5) (hzW6 : KW6.Ok zW6) (v_f : Int) (v_index : Int64) (hv_f : R32 v_f) (R9 : Out Empty (Int)) (hf : f_Wa_variableTypeOf zW1 zW3 zWj v_f v_index = R9) (hnb : R9 ≠ .bad) (sz : Nat) : MetX l y_Wa_variableTypeOf (wx y_Wa_variableTypeOf b_Wa_variableTypeOf 7 (some .int)) { frames := 1, cells := 0, slots := 0, locals := 22 } (XP G classes (xtys cB cI cJ cZ cG) xE [.ref aWa, .int (iI v_f), .long v_index] [(aWa, .inr (7, [.int (iI zW1.typeCount), .ref aWa_parameterCounts, .ref aWa_parameters, .ref aWa_results, .int (iI zW3.functionCount), .ref aWa_functionTypes, .ref aWa_starts, .ref aWa_localCounts, .ref aWa_locals, .int (bI zW5.hasMemory), .long zW5.pagesAtFirst, .long zW5.pagesMost, .int (iI zW6.globalCount), .ref aWa_globalTypes, .ref aWa_globalsChange, .ref aWa_initialTypes, .ref aWa_initialValues, .ref aEx, .ref aCo])), (aWa_parameterCounts, .inl (cI, 20, .inl (fun k9 => iI (zW1.parameterCounts k9)))), (aWa_parameters, .inl (cI, 160, .inl (fun k9 => iI (zW1.parameters k9)))), (aWa_functionTypes, .inl (cI, 30, .inl (fun k9 => iI (zW3.functionTypes k9)))), (aWa_localCounts, .inl (cI, 30, .inl (fun k9 => iI (zWj.localCounts k9)))), (aWa_locals, .inl (cI, 1800, .inl (fun k9 => iI (zWj.locals k9))))] sz) (XQ G classes (va_A [(aWa, .inr (7, [.int (iI zW1.typeCount), .ref aWa_parameterCounts, .ref aWa_parameters, .ref aWa_results, .int (iI zW3.functionCount), .ref aWa_functionTypes, .ref aWa_starts, .ref aWa_localCounts, .ref aWa_locals, .int (bI zW5.hasMemory), .long zW5.pagesAtFirst, .long zW5.pagesMost, .int (iI zW6.globalCount), .ref aWa_globalTypes, .ref aWa_globalsChange, .ref aWa_initialTypes, .ref aWa_initialValues, .ref aEx, .ref aCo])), (aWa_parameterCounts, .inl (cI, 20, .inl (fun k9 => iI (zW1.parameterCounts k9)))), (aWa_parameters, .inl (cI, 160, .inl (fun k9 => iI (zW1.parameters k9)))), (aWa_functionTypes, .inl (cI, 30, .inl (fun k9 => iI (zW3.functionTypes k9)))), (aWa_localCounts, .inl (cI, 30, .inl (fun k9 => iI (zWj.localCounts k9)))), (aWa_locals, .inl (cI, 1800, .inl (fun k9 => iI (zWj.locals k9))))] sz) (fun o w1 => ozp R9 (fun x9 => (R32 x9) ∧ o = .returned (some (.int (iI x9))) ∧ w1 = [(aWa, .inr (7, [.int (iI zW1.typeCount), .ref aWa_parameterCounts, .ref aWa_parameters, .ref aWa_results, .int (iI zW3.functionCount), .ref aWa_functionTypes, .ref aWa_starts, .ref aWa_localCounts, .ref aWa_locals, .int (bI zW5.hasMemory), .long zW5.pagesAtFirst, .long zW5.pagesMost, .int (iI zW6.globalCount), .ref aWa_globalTypes, .ref aWa_globalsChange, .ref aWa_initialTypes, .ref aWa_initialValues, .ref aEx, .ref aCo])), (aWa_parameterCounts, .inl (cI, 20, .inl (fun k9 => iI (zW1.parameterCounts k9)))), (aWa_parameters, .inl (cI, 160, .inl (fun k9 => iI (zW1.parameters k9)))), (aWa_functionTypes, .inl (cI, 30, .inl (fun k9 => iI (zW3.functionTypes k9)))), (aWa_localCounts, .inl (cI, 30, .inl (fun k9 => iI (zWj.localCounts k9)))), (aWa_locals, .inl (cI, 1800, .inl (fun k9 => iI (zWj.locals k9))))]) (fun _ => False))) 0 0 (va_A [(aWa, .inr (7, [.int (iI zW1.typeCount), .ref aWa_parameterCounts, .ref aWa_parameters, .ref aWa_results, .int (iI zW3.functionCount), .ref aWa_functionTypes, .ref aWa_starts, .ref aWa_localCounts, .ref aWa_locals, .int (bI zW5.hasMemory), .long zW5.pagesAtFirst, .long zW5.pagesMost, .int (iI zW6.globalCount), .ref aWa_globalTypes, .ref aWa_globalsChange, .ref aWa_initialTypes, .ref aWa_initialValues, .ref aEx, .ref aCo])), (aWa_parameterCounts, .inl (cI, 20, .inl (fun k9 => iI (zW1.parameterCounts k9)))), (aWa_parameters, .inl (cI, 160, .inl (fun k9 => iI (zW1.parameters k9)))), (aWa_functionTypes, .inl (cI, 30, .inl (fun k9 => iI (zW3.functionTypes k9)))), (aWa_localCounts, .inl (cI, 30, .inl (fun k9 => iI (zWj.localCounts k9)))), (aWa_locals, .inl (cI, 1800, .inl (fun k9 => iI (zWj.locals k9))))] sz) := by
  refine ex_ofW (cc := b_Wa_variableTypeOf) (maxL := 7) (ret := (some .int)) (by decide) rfl ?_
  intro p e s m args below meth c s₁ B hml hno hv
  obtain ⟨rfl, hsz, hP, hK, hD0, hE⟩ := hv
  have hx := B.exec
  have hb := B.bytes
  have hr := B.returns
  have hts : ∀ w ∈ lw_good, w.before _ s = true := fun w h => atoms_spec (ws := wx y_Wa_variableTypeOf b_Wa_variableTypeOf 7 (some .int)) B.pre w (List.mem_cons_of_mem _ h)
  have hown : s.vm.findClass R_Wa = some m.cls := findClass_of_methodNamed B.named
  have hlocks := B.notSynchronized
  subst hsz
  have hNS := xx_nostat hP
  have hD := hD0.self (sz := s.heap.size)
  generalize hAe : va_A [(aWa, .inr (7, [.int (iI zW1.typeCount), .ref aWa_parameterCounts, .ref aWa_parameters, .ref aWa_results, .int (iI zW3.functionCount), .ref aWa_functionTypes, .ref aWa_starts, .ref aWa_localCounts, .ref aWa_locals, .int (bI zW5.hasMemory), .long zW5.pagesAtFirst, .long zW5.pagesMost, .int (iI zW6.globalCount), .ref aWa_globalTypes, .ref aWa_globalsChange, .ref aWa_initialTypes, .ref aWa_initialValues, .ref aEx, .ref aCo])), (aWa_parameterCounts, .inl (cI, 20, .inl (fun k9 => iI (zW1.parameterCounts k9)))), (aWa_parameters, .inl (cI, 160, .inl (fun k9 => iI (zW1.parameters k9)))), (aWa_functionTypes, .inl (cI, 30, .inl (fun k9 => iI (zW3.functionTypes k9)))), (aWa_localCounts, .inl (cI, 30, .inl (fun k9 => iI (zWj.localCounts k9)))), (aWa_locals, .inl (cI, 1800, .inl (fun k9 => iI (zWj.locals k9))))] s.heap.size = A at hD hE hNS ⊢
  have hA : ∀ q : Nat, s.heap.size ≤ q → A q := fun q h => by rw [← hAe]; exact Or.inr h
  have hS : va_S A s.heap s.heap [] := va_S.rf
  have hl := lv_entry ([.ref aWa, .int (iI v_f), .long v_index]) (n := 7) (Nat.le_of_ble_eq_true rfl)
  rw [lg_entry_eq]
  generalize (lg_sl ([.ref aWa, .int (iI v_f), .long v_index]) ++ List.replicate (7 - (lg_sl ([.ref aWa, .int (iI v_f), .long v_index])).length) Slot.unset).toArray = ls at hl ⊢
  have hl : lv_has ls 7 [(0, .ref aWa), (1, .int (iI v_f)), (2, .long v_index)] := hl
  unfold f_Wa_variableTypeOf at hf
  refine lv_aload_n hx hb d_Wa_variableTypeOf_0 rfl (lv_at hl 0 rfl) ?_
  refine lv_iload_n hx hb d_Wa_variableTypeOf_1 rfl (lv_at hl 1 rfl) ?_
  replace hf := obE hnb hf
  obtain ⟨x_1, e_2, hf⟩ := hf
  refine xx_callV (wc := [(aWa, .inr (7, [.int (iI zW1.typeCount), .ref aWa_parameterCounts, .ref aWa_parameters, .ref aWa_results, .int (iI zW3.functionCount), .ref aWa_functionTypes, .ref aWa_starts, .ref aWa_localCounts, .ref aWa_locals, .int (bI zW5.hasMemory), .long zW5.pagesAtFirst, .long zW5.pagesMost, .int (iI zW6.globalCount), .ref aWa_globalTypes, .ref aWa_globalsChange, .ref aWa_initialTypes, .ref aWa_initialValues, .ref aEx, .ref aCo])), (aWa_parameterCounts, .inl (cI, 20, .inl (fun k9 => iI (zW1.parameterCounts k9)))), (aWa_functionTypes, .inl (cI, 30, .inl (fun k9 => iI (zW3.functionTypes k9))))]) (wr := [(aWa_parameters, .inl (cI, 160, .inl (fun k9 => iI (zW1.parameters k9)))), (aWa_localCounts, .inl (cI, 30, .inl (fun k9 => iI (zWj.localCounts k9)))), (aWa_locals, .inl (cI, 1800, .inl (fun k9 => iI (zWj.locals k9))))]) (As := [.int (iI v_f)]) (rest := []) ⟨hx, hb, hml, hown, hts⟩ xE_st hK hE hA (k_Wa_parameterCountOf l htr G cB cI cJ cZ cG aWa aWa_parameterCounts aWa_parameters aWa_results aWa_functionTypes aWa_starts aWa_localCounts aWa_locals aWa_globalTypes aWa_globalsChange aWa_initialTypes aWa_initialValues aEx aCo zW1 zW3 zW5 zW6 hzW1 hzW3 hzW5 hzW6 v_f hv_f (.ret x_1) e_2 ret_nb _) (xw_V 1 hts m_848 m_833 m_834 m_8 m_835 (by decide +kernel) ⟨(Nat.le_of_ble_eq_true rfl), (Nat.le_of_ble_eq_true rfl)⟩) hP hD hS [0, 1, 3] [2, 4, 5] rfl rfl (by decide +kernel) (by decide +kernel) (by decide +kernel) 0 7 rfl rfl rfl rfl hl.1 rfl (Nat.le_of_ble_eq_true rfl) d_Wa_variableTypeOf_2 ⟨(Nat.le_of_ble_eq_true rfl), (Nat.le_of_ble_eq_true rfl)⟩ (fun v9 w9 H_1 locs_1 hp hP_1 hD_1 hS_1 => ?_) (fun x9 w9 H9 l9 hp _ _ _ => absurd hp (fun q9 => by obtain ⟨-, ho, -⟩ := q9; cases ho))
  clear hS hD hP
  obtain ⟨hx_1, ho, rfl⟩ := hp
  cases ho
  replace hP_1 : va_P G classes [(aWa_parameters, .inl (cI, 160, .inl (fun k9 => iI (zW1.parameters k9)))), (aWa_localCounts, .inl (cI, 30, .inl (fun k9 => iI (zWj.localCounts k9)))), (aWa_locals, .inl (cI, 1800, .inl (fun k9 => iI (zWj.locals k9)))), (aWa, .inr (7, [.int (iI zW1.typeCount), .ref aWa_parameterCounts, .ref aWa_parameters, .ref aWa_results, .int (iI zW3.functionCount), .ref aWa_functionTypes, .ref aWa_starts, .ref aWa_localCounts, .ref aWa_locals, .int (bI zW5.hasMemory), .long zW5.pagesAtFirst, .long zW5.pagesMost, .int (iI zW6.globalCount), .ref aWa_globalTypes, .ref aWa_globalsChange, .ref aWa_initialTypes, .ref aWa_initialValues, .ref aEx, .ref aCo])), (aWa_parameterCounts, .inl (cI, 20, .inl (fun k9 => iI (zW1.parameterCounts k9)))), (aWa_functionTypes, .inl (cI, 30, .inl (fun k9 => iI (zW3.functionTypes k9))))] H_1 := hP_1
  replace hD_1 : va_D A [(aWa_parameters, .inl (cI, 160, .inl (fun k9 => iI (zW1.parameters k9)))), (aWa_localCounts, .inl (cI, 30, .inl (fun k9 => iI (zWj.localCounts k9)))), (aWa_locals, .inl (cI, 1800, .inl (fun k9 => iI (zWj.locals k9)))), (aWa, .inr (7, [.int (iI zW1.typeCount), .ref aWa_parameterCounts, .ref aWa_parameters, .ref aWa_results, .int (iI zW3.functionCount), .ref aWa_functionTypes, .ref aWa_starts, .ref aWa_localCounts, .ref aWa_locals, .int (bI zW5.hasMemory), .long zW5.pagesAtFirst, .long zW5.pagesMost, .int (iI zW6.globalCount), .ref aWa_globalTypes, .ref aWa_globalsChange, .ref aWa_initialTypes, .ref aWa_initialValues, .ref aEx, .ref aCo])), (aWa_parameterCounts, .inl (cI, 20, .inl (fun k9 => iI (zW1.parameterCounts k9)))), (aWa_functionTypes, .inl (cI, 30, .inl (fun k9 => iI (zW3.functionTypes k9))))] := hD_1
  refine lv_istore (lv' := [(4, .int (iI x_1)), (0, .ref aWa), (1, .int (iI v_f)), (2, .long v_index)]) hx hb d_Wa_variableTypeOf_5 hl (by decide) rfl (fun ls hl => ?_)
  refine lv_lload_n hx hb d_Wa_variableTypeOf_7 rfl (lv_at hl 3 rfl) ?_
  refine lv_iload hx hb d_Wa_variableTypeOf_8 (lv_at hl 0 rfl) ?_
  refine lv_i2l hx hb d_Wa_variableTypeOf_10 rfl ?_
  refine W.lcmp hx hb d_Wa_variableTypeOf_11 ?_
  refine lv_if_ge (tgt := 23) hx hb d_Wa_variableTypeOf_12 (by decide) (fun c_3 => ?_) (fun c_3 => ?_)
  · have c_3 := (lc_ge).mp c_3
    replace hf := ifp c_3 hf
    refine lv_lload_n hx hb d_Wa_variableTypeOf_23 rfl (lv_at hl 3 rfl) ?_
    refine lv_iload hx hb d_Wa_variableTypeOf_24 (lv_at hl 0 rfl) ?_
    refine lv_i2l hx hb d_Wa_variableTypeOf_26 rfl ?_
    refine lv_lsub hx hb d_Wa_variableTypeOf_27 ?_
    refine lv_lstore (lv' := [(5, .long (v_index - ((iI x_1).toInt64))), (4, .int (iI x_1)), (0, .ref aWa), (1, .int (iI v_f)), (2, .long v_index)]) hx hb d_Wa_variableTypeOf_28 hl (by decide) rfl (fun ls hl => ?_)
    refine lv_lload hx hb d_Wa_variableTypeOf_30 (lv_at hl 0 rfl) ?_
    refine lv_aload_n hx hb d_Wa_variableTypeOf_32 rfl (lv_at hl 2 rfl) ?_
    refine va_get (D := G) (ci := 7) (v := .ref aWa_localCounts) (C := R_Wa) (T := F_Wa) (N := 19) hx hb hts i_Wa hown hK hP_1 3 rfl rfl 7 (by decide) (hts _ m_335) (fun _ h9 => h9) rfl d_Wa_variableTypeOf_33 ?_
    refine lv_iload_n hx hb d_Wa_variableTypeOf_36 rfl (lv_at hl 3 rfl) ?_
    replace hf := grd hnb hf
    obtain ⟨g_4, hf⟩ := hf
    refine va_iald hx hb hK hP_1 1 1 rfl rfl (vp_in_iI hv_f g_4) d_Wa_variableTypeOf_37 ?_
    refine W.eq (g2 := F0 m 38 ls [.int (iI (zWj.localCounts v_f.toNat)), .long (v_index - ((iI x_1).toInt64))]) (by rw [iI_clamp hv_f] <;> rfl) ?_
    refine lv_i2l hx hb d_Wa_variableTypeOf_38 rfl ?_
    refine W.lcmp hx hb d_Wa_variableTypeOf_39 ?_
    refine jpE hf (fun K_6 hK_6 hf9 => ?_)
    replace hf := hf9
    clear hf9
    have hJK_6 : ∀ (y_5 : Int), R32 y_5 → K_6 y_5 = R9 → ∀ (H_1 : Heap) (locs_1 : List Loc), va_P G classes [(aWa_parameters, .inl (cI, 160, .inl (fun k9 => iI (zW1.parameters k9)))), (aWa_localCounts, .inl (cI, 30, .inl (fun k9 => iI (zWj.localCounts k9)))), (aWa_locals, .inl (cI, 1800, .inl (fun k9 => iI (zWj.locals k9)))), (aWa, .inr (7, [.int (iI zW1.typeCount), .ref aWa_parameterCounts, .ref aWa_parameters, .ref aWa_results, .int (iI zW3.functionCount), .ref aWa_functionTypes, .ref aWa_starts, .ref aWa_localCounts, .ref aWa_locals, .int (bI zW5.hasMemory), .long zW5.pagesAtFirst, .long zW5.pagesMost, .int (iI zW6.globalCount), .ref aWa_globalTypes, .ref aWa_globalsChange, .ref aWa_initialTypes, .ref aWa_initialValues, .ref aEx, .ref aCo])), (aWa_parameterCounts, .inl (cI, 20, .inl (fun k9 => iI (zW1.parameterCounts k9)))), (aWa_functionTypes, .inl (cI, 30, .inl (fun k9 => iI (zW3.functionTypes k9))))] H_1 → va_D A [(aWa_parameters, .inl (cI, 160, .inl (fun k9 => iI (zW1.parameters k9)))), (aWa_localCounts, .inl (cI, 30, .inl (fun k9 => iI (zWj.localCounts k9)))), (aWa_locals, .inl (cI, 1800, .inl (fun k9 => iI (zWj.locals k9)))), (aWa, .inr (7, [.int (iI zW1.typeCount), .ref aWa_parameterCounts, .ref aWa_parameters, .ref aWa_results, .int (iI zW3.functionCount), .ref aWa_functionTypes, .ref aWa_starts, .ref aWa_localCounts, .ref aWa_locals, .int (bI zW5.hasMemory), .long zW5.pagesAtFirst, .long zW5.pagesMost, .int (iI zW6.globalCount), .ref aWa_globalTypes, .ref aWa_globalsChange, .ref aWa_initialTypes, .ref aWa_initialValues, .ref aEx, .ref aCo])), (aWa_parameterCounts, .inl (cI, 20, .inl (fun k9 => iI (zW1.parameterCounts k9)))), (aWa_functionTypes, .inl (cI, 30, .inl (fun k9 => iI (zW3.functionTypes k9))))] → va_S A s.heap H_1 locs_1 → ∀ (ls : Array Slot), lv_has ls 7 [(0, .ref aWa), (1, .int (iI v_f)), (2, .long v_index), (4, .int (iI x_1)), (5, .long (v_index - ((iI x_1).toInt64)))] → W p l e (headSpec (wx y_Wa_variableTypeOf b_Wa_variableTypeOf 7 (some .int)) { frames := 1, cells := 0, slots := 0, locals := 22 }).room s m ([.ref aWa, .int (iI v_f), .long v_index] : List Value).toArray below meth c H_1 locs_1 0 0 (MX below (XQ G classes A (fun o w1 => ozp R9 (fun x9 => (R32 x9) ∧ o = .returned (some (.int (iI x9))) ∧ w1 = [(aWa, .inr (7, [.int (iI zW1.typeCount), .ref aWa_parameterCounts, .ref aWa_parameters, .ref aWa_results, .int (iI zW3.functionCount), .ref aWa_functionTypes, .ref aWa_starts, .ref aWa_localCounts, .ref aWa_locals, .int (bI zW5.hasMemory), .long zW5.pagesAtFirst, .long zW5.pagesMost, .int (iI zW6.globalCount), .ref aWa_globalTypes, .ref aWa_globalsChange, .ref aWa_initialTypes, .ref aWa_initialValues, .ref aEx, .ref aCo])), (aWa_parameterCounts, .inl (cI, 20, .inl (fun k9 => iI (zW1.parameterCounts k9)))), (aWa_parameters, .inl (cI, 160, .inl (fun k9 => iI (zW1.parameters k9)))), (aWa_functionTypes, .inl (cI, 30, .inl (fun k9 => iI (zW3.functionTypes k9)))), (aWa_localCounts, .inl (cI, 30, .inl (fun k9 => iI (zWj.localCounts k9)))), (aWa_locals, .inl (cI, 1800, .inl (fun k9 => iI (zWj.locals k9))))]) (fun _ => False))) ([.ref aWa, .int (iI v_f), .long v_index] : List Value).toArray s 0 0 A) (F0 m 61 ls [.int (iI y_5)]) := by
      intro y_5 hy_5 hf H_2 locs_2 hP_2 hD_2 hS_2 ls hl
      clear hS_1 hD_1 hP_1
      replace hf := (congrFun hK_6 y_5).symm.trans hf
      clear hK_6
      have hP_2 := hP_2.sub (ws' := [(aWa, .inr (7, [.int (iI zW1.typeCount), .ref aWa_parameterCounts, .ref aWa_parameters, .ref aWa_results, .int (iI zW3.functionCount), .ref aWa_functionTypes, .ref aWa_starts, .ref aWa_localCounts, .ref aWa_locals, .int (bI zW5.hasMemory), .long zW5.pagesAtFirst, .long zW5.pagesMost, .int (iI zW6.globalCount), .ref aWa_globalTypes, .ref aWa_globalsChange, .ref aWa_initialTypes, .ref aWa_initialValues, .ref aEx, .ref aCo])), (aWa_parameterCounts, .inl (cI, 20, .inl (fun k9 => iI (zW1.parameterCounts k9)))), (aWa_parameters, .inl (cI, 160, .inl (fun k9 => iI (zW1.parameters k9)))), (aWa_functionTypes, .inl (cI, 30, .inl (fun k9 => iI (zW3.functionTypes k9)))), (aWa_localCounts, .inl (cI, 30, .inl (fun k9 => iI (zWj.localCounts k9)))), (aWa_locals, .inl (cI, 1800, .inl (fun k9 => iI (zWj.locals k9))))]) [3, 4, 0, 5, 1, 2] rfl
      have hD_2 := hD_2.sub (ws' := [(aWa, .inr (7, [.int (iI zW1.typeCount), .ref aWa_parameterCounts, .ref aWa_parameters, .ref aWa_results, .int (iI zW3.functionCount), .ref aWa_functionTypes, .ref aWa_starts, .ref aWa_localCounts, .ref aWa_locals, .int (bI zW5.hasMemory), .long zW5.pagesAtFirst, .long zW5.pagesMost, .int (iI zW6.globalCount), .ref aWa_globalTypes, .ref aWa_globalsChange, .ref aWa_initialTypes, .ref aWa_initialValues, .ref aEx, .ref aCo])), (aWa_parameterCounts, .inl (cI, 20, .inl (fun k9 => iI (zW1.parameterCounts k9)))), (aWa_parameters, .inl (cI, 160, .inl (fun k9 => iI (zW1.parameters k9)))), (aWa_functionTypes, .inl (cI, 30, .inl (fun k9 => iI (zW3.functionTypes k9)))), (aWa_localCounts, .inl (cI, 30, .inl (fun k9 => iI (zWj.localCounts k9)))), (aWa_locals, .inl (cI, 1800, .inl (fun k9 => iI (zWj.locals k9))))]) [3, 4, 0, 5, 1, 2] (by decide +kernel) rfl
      exact ex_W (fun _ h => ex_mq h) (W.iret (v := iI y_5) hx hb hr (fun t ht hW => ⟨⟨_, ozr hf ⟨hy_5, rfl, rfl⟩, by rw [ht]; exact hP_2, hD_2⟩, hS_2.F ht⟩) hS_2.2.2 d_Wa_variableTypeOf_61)
    clear hK_6
    refine lv_if_ge (tgt := 59) hx hb d_Wa_variableTypeOf_40 (by decide) (fun c_7 => ?_) (fun c_7 => ?_)
    · have c_7 := (lc_ge).mp c_7
      replace hf := ifp c_7 hf
      refine lv_bipush (v := iI 64) hx hb d_Wa_variableTypeOf_59 (by decide) ?_
      exact hJK_6 64 (show R32 (64) by decide) hf _ _ hP_1 hD_1 hS_1 _ (lv_sub hl [2, 3, 4, 1, 0] rfl)
    · have c_7 := (fun q9 => c_7 ((lc_ge).mpr q9))
      replace hf := ifn c_7 hf
      refine lv_aload_n hx hb d_Wa_variableTypeOf_43 rfl (lv_at hl 2 rfl) ?_
      refine va_get (D := G) (ci := 7) (v := .ref aWa_locals) (C := R_Wa) (T := F_Wa) (N := 19) hx hb hts i_Wa hown hK hP_1 3 rfl rfl 8 (by decide) (hts _ m_338) (fun _ h9 => h9) rfl d_Wa_variableTypeOf_44 ?_
      refine lv_iload_n hx hb d_Wa_variableTypeOf_47 rfl (lv_at hl 3 rfl) ?_
      refine lv_bipush (v := iI 60) hx hb d_Wa_variableTypeOf_48 (by decide) ?_
      refine lv_imul hx hb d_Wa_variableTypeOf_50 ?_
      refine lv_topi (fun x9 e9 => ?_)
      obtain rfl : x9 = iI (v_f * 60) := e9.trans (iI_mul _ _)
      replace hf := grd hnb hf
      obtain ⟨g_8, hf⟩ := hf
      refine lv_lload hx hb d_Wa_variableTypeOf_51 (lv_at hl 0 rfl) ?_
      refine lv_l2i hx hb d_Wa_variableTypeOf_53 rfl ?_
      refine lv_iadd hx hb d_Wa_variableTypeOf_54 ?_
      refine W.eq (g2 := F0 m 55 ls [.int (iI (((iI (v_f * 60)) + ((v_index - ((iI x_1).toInt64)).toInt32)).toInt)), .ref aWa_locals]) (by rw [← iI_of ((iI (v_f * 60)) + ((v_index - ((iI x_1).toInt64)).toInt32))] <;> rfl) ?_
      replace hf := grd hnb hf
      obtain ⟨g_9, hf⟩ := hf
      refine va_iald hx hb hK hP_1 2 1 rfl rfl (vp_in_iI (R32_of _) g_9) d_Wa_variableTypeOf_55 ?_
      refine W.eq (g2 := F0 m 56 ls [.int (iI (zWj.locals (((iI (v_f * 60)) + ((v_index - ((iI x_1).toInt64)).toInt32)).toInt).toNat))]) (by rw [iI_clamp (R32_of _)] <;> rfl) ?_
      refine lv_goto (tgt := 61) hx hb d_Wa_variableTypeOf_56 (by decide) ?_
      exact hJK_6 (zWj.locals (((iI (v_f * 60)) + ((v_index - ((iI x_1).toInt64)).toInt32)).toInt).toNat) (hzWj.locals _) hf _ _ hP_1 hD_1 hS_1 _ (lv_sub hl [2, 3, 4, 1, 0] rfl)
  · have c_3 := (fun q9 => c_3 ((lc_ge).mpr q9))
    replace hf := ifn c_3 hf
    refine lv_aload_n hx hb d_Wa_variableTypeOf_15 rfl (lv_at hl 1 rfl) ?_
    refine lv_iload_n hx hb d_Wa_variableTypeOf_16 rfl (lv_at hl 2 rfl) ?_
    refine lv_lload_n hx hb d_Wa_variableTypeOf_17 rfl (lv_at hl 3 rfl) ?_
    refine lv_l2i hx hb d_Wa_variableTypeOf_18 rfl ?_
    refine W.eq (g2 := F0 m 19 ls [.int (iI v_index.toInt32.toInt), .int (iI v_f), .ref aWa]) (by rw [← iI_of v_index.toInt32] <;> rfl) ?_
    replace hf := obE hnb hf
    obtain ⟨x_10, e_11, hf⟩ := hf
    refine xx_callV (wc := [(aWa, .inr (7, [.int (iI zW1.typeCount), .ref aWa_parameterCounts, .ref aWa_parameters, .ref aWa_results, .int (iI zW3.functionCount), .ref aWa_functionTypes, .ref aWa_starts, .ref aWa_localCounts, .ref aWa_locals, .int (bI zW5.hasMemory), .long zW5.pagesAtFirst, .long zW5.pagesMost, .int (iI zW6.globalCount), .ref aWa_globalTypes, .ref aWa_globalsChange, .ref aWa_initialTypes, .ref aWa_initialValues, .ref aEx, .ref aCo])), (aWa_parameters, .inl (cI, 160, .inl (fun k9 => iI (zW1.parameters k9)))), (aWa_functionTypes, .inl (cI, 30, .inl (fun k9 => iI (zW3.functionTypes k9))))]) (wr := [(aWa_localCounts, .inl (cI, 30, .inl (fun k9 => iI (zWj.localCounts k9)))), (aWa_locals, .inl (cI, 1800, .inl (fun k9 => iI (zWj.locals k9)))), (aWa_parameterCounts, .inl (cI, 20, .inl (fun k9 => iI (zW1.parameterCounts k9))))]) (As := [.int (iI v_f), .int (iI v_index.toInt32.toInt)]) (rest := []) ⟨hx, hb, hml, hown, hts⟩ xE_st hK hE hA (k_Wa_parameterTypeOf l htr G cB cI cJ cZ cG aWa aWa_parameterCounts aWa_parameters aWa_results aWa_functionTypes aWa_starts aWa_localCounts aWa_locals aWa_globalTypes aWa_globalsChange aWa_initialTypes aWa_initialValues aEx aCo zW1 zW3 zW5 zW6 hzW1 hzW3 hzW5 hzW6 v_f v_index.toInt32.toInt hv_f (R32_of _) (.ret x_10) e_11 ret_nb _) (xw_V 2 hts m_849 m_837 m_838 m_8 m_839 (by decide +kernel) ⟨(Nat.le_of_ble_eq_true rfl), (Nat.le_of_ble_eq_true rfl)⟩) hP_1 hD_1 hS_1 [3, 0, 5] [1, 2, 4] rfl rfl (by decide +kernel) (by decide +kernel) (by decide +kernel) 0 7 rfl rfl rfl rfl hl.1 rfl (Nat.le_of_ble_eq_true rfl) d_Wa_variableTypeOf_19 ⟨(Nat.le_of_ble_eq_true rfl), (Nat.le_of_ble_eq_true rfl)⟩ (fun v9 w9 H_3 locs_3 hp hP_3 hD_3 hS_3 => ?_) (fun x9 w9 H9 l9 hp _ _ _ => absurd hp (fun q9 => by obtain ⟨-, ho, -⟩ := q9; cases ho))
    clear hS_1 hD_1 hP_1
    obtain ⟨hx_10, ho, rfl⟩ := hp
    cases ho
    replace hP_3 : va_P G classes [(aWa_localCounts, .inl (cI, 30, .inl (fun k9 => iI (zWj.localCounts k9)))), (aWa_locals, .inl (cI, 1800, .inl (fun k9 => iI (zWj.locals k9)))), (aWa_parameterCounts, .inl (cI, 20, .inl (fun k9 => iI (zW1.parameterCounts k9)))), (aWa, .inr (7, [.int (iI zW1.typeCount), .ref aWa_parameterCounts, .ref aWa_parameters, .ref aWa_results, .int (iI zW3.functionCount), .ref aWa_functionTypes, .ref aWa_starts, .ref aWa_localCounts, .ref aWa_locals, .int (bI zW5.hasMemory), .long zW5.pagesAtFirst, .long zW5.pagesMost, .int (iI zW6.globalCount), .ref aWa_globalTypes, .ref aWa_globalsChange, .ref aWa_initialTypes, .ref aWa_initialValues, .ref aEx, .ref aCo])), (aWa_parameters, .inl (cI, 160, .inl (fun k9 => iI (zW1.parameters k9)))), (aWa_functionTypes, .inl (cI, 30, .inl (fun k9 => iI (zW3.functionTypes k9))))] H_3 := hP_3
    replace hD_3 : va_D A [(aWa_localCounts, .inl (cI, 30, .inl (fun k9 => iI (zWj.localCounts k9)))), (aWa_locals, .inl (cI, 1800, .inl (fun k9 => iI (zWj.locals k9)))), (aWa_parameterCounts, .inl (cI, 20, .inl (fun k9 => iI (zW1.parameterCounts k9)))), (aWa, .inr (7, [.int (iI zW1.typeCount), .ref aWa_parameterCounts, .ref aWa_parameters, .ref aWa_results, .int (iI zW3.functionCount), .ref aWa_functionTypes, .ref aWa_starts, .ref aWa_localCounts, .ref aWa_locals, .int (bI zW5.hasMemory), .long zW5.pagesAtFirst, .long zW5.pagesMost, .int (iI zW6.globalCount), .ref aWa_globalTypes, .ref aWa_globalsChange, .ref aWa_initialTypes, .ref aWa_initialValues, .ref aEx, .ref aCo])), (aWa_parameters, .inl (cI, 160, .inl (fun k9 => iI (zW1.parameters k9)))), (aWa_functionTypes, .inl (cI, 30, .inl (fun k9 => iI (zW3.functionTypes k9))))] := hD_3
    have hP_3 := hP_3.sub (ws' := [(aWa, .inr (7, [.int (iI zW1.typeCount), .ref aWa_parameterCounts, .ref aWa_parameters, .ref aWa_results, .int (iI zW3.functionCount), .ref aWa_functionTypes, .ref aWa_starts, .ref aWa_localCounts, .ref aWa_locals, .int (bI zW5.hasMemory), .long zW5.pagesAtFirst, .long zW5.pagesMost, .int (iI zW6.globalCount), .ref aWa_globalTypes, .ref aWa_globalsChange, .ref aWa_initialTypes, .ref aWa_initialValues, .ref aEx, .ref aCo])), (aWa_parameterCounts, .inl (cI, 20, .inl (fun k9 => iI (zW1.parameterCounts k9)))), (aWa_parameters, .inl (cI, 160, .inl (fun k9 => iI (zW1.parameters k9)))), (aWa_functionTypes, .inl (cI, 30, .inl (fun k9 => iI (zW3.functionTypes k9)))), (aWa_localCounts, .inl (cI, 30, .inl (fun k9 => iI (zWj.localCounts k9)))), (aWa_locals, .inl (cI, 1800, .inl (fun k9 => iI (zWj.locals k9))))]) [3, 2, 4, 5, 0, 1] rfl
    have hD_3 := hD_3.sub (ws' := [(aWa, .inr (7, [.int (iI zW1.typeCount), .ref aWa_parameterCounts, .ref aWa_parameters, .ref aWa_results, .int (iI zW3.functionCount), .ref aWa_functionTypes, .ref aWa_starts, .ref aWa_localCounts, .ref aWa_locals, .int (bI zW5.hasMemory), .long zW5.pagesAtFirst, .long zW5.pagesMost, .int (iI zW6.globalCount), .ref aWa_globalTypes, .ref aWa_globalsChange, .ref aWa_initialTypes, .ref aWa_initialValues, .ref aEx, .ref aCo])), (aWa_parameterCounts, .inl (cI, 20, .inl (fun k9 => iI (zW1.parameterCounts k9)))), (aWa_parameters, .inl (cI, 160, .inl (fun k9 => iI (zW1.parameters k9)))), (aWa_functionTypes, .inl (cI, 30, .inl (fun k9 => iI (zW3.functionTypes k9)))), (aWa_localCounts, .inl (cI, 30, .inl (fun k9 => iI (zWj.localCounts k9)))), (aWa_locals, .inl (cI, 1800, .inl (fun k9 => iI (zWj.locals k9))))]) [3, 2, 4, 5, 0, 1] (by decide +kernel) rfl
    exact ex_W (fun _ h => ex_mq h) (W.iret (v := iI x_10) hx hb hr (fun t ht hW => ⟨⟨_, ozr hf ⟨hx_10, rfl, rfl⟩, by rw [ht]; exact hP_3, hD_3⟩, hS_3.F ht⟩) hS_3.2.2 d_Wa_variableTypeOf_22)
