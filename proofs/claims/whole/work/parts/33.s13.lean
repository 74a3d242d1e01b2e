abbrev b_Ma_push : ByteArray := prog_7_method_21_code
def y_Ma_push : MethodName := ⟨R_Ma, "push", "(J)V"⟩
abbrev b_Ma_pop : ByteArray := prog_7_method_22_code
def y_Ma_pop : MethodName := ⟨R_Ma, "pop", "()J"⟩
abbrev b_Ma_select : ByteArray := prog_7_method_12_code
def y_Ma_select : MethodName := ⟨R_Ma, "select", "()V"⟩
abbrev b_Ma_unwind : ByteArray := prog_7_method_8_code
def y_Ma_unwind : MethodName := ⟨R_Ma, "unwind", "(II)V"⟩
abbrev b_Ma_enter : ByteArray := prog_7_method_9_code
def y_Ma_enter : MethodName := ⟨R_Ma, "enter", "(I)V"⟩
abbrev b_Ma_leave : ByteArray := prog_7_method_10_code
def y_Ma_leave : MethodName := ⟨R_Ma, "leave", "()V"⟩
abbrev b_Ma_branch : ByteArray := prog_7_method_7_code
def y_Ma_branch : MethodName := ⟨R_Ma, "branch", "(I)V"⟩
abbrev b_Ma_grow : ByteArray := prog_7_method_14_code
def y_Ma_grow : MethodName := ⟨R_Ma, "grow", "(J)V"⟩
abbrev b_J_Math_min1 : ByteArray := prog_24_method_70_code
def y_J_Math_min1 : MethodName := ⟨"java/lang/Math", "min", "(JJ)J"⟩
abbrev b_Ma_isInside : ByteArray := prog_7_method_15_code
def y_Ma_isInside : MethodName := ⟨R_Ma, "isInside", "(JI)Z"⟩
abbrev b_Ma_load : ByteArray := prog_7_method_16_code
def y_Ma_load : MethodName := ⟨R_Ma, "load", "(IJ)V"⟩
abbrev b_Ma_store : ByteArray := prog_7_method_17_code
def y_Ma_store : MethodName := ⟨R_Ma, "store", "(IJJ)V"⟩
theorem d_Ma_push_0 : decode b_Ma_push 0 = .ok (.aload_n 0, 1) := by decide +kernel
theorem d_Ma_push_1 : decode b_Ma_push 1 = .ok (.getfield 74, 3) := by decide +kernel
theorem d_Ma_push_4 : decode b_Ma_push 4 = .ok (.sipush 12096, 3) := by decide +kernel
theorem d_Ma_push_7 : decode b_Ma_push 7 = .ok (.if_icmp .lt 10, 3) := by decide +kernel
theorem d_Ma_push_10 : decode b_Ma_push 10 = .ok (.aload_n 0, 1) := by decide +kernel
theorem d_Ma_push_11 : decode b_Ma_push 11 = .ok (.bipush 7, 2) := by decide +kernel
theorem d_Ma_push_13 : decode b_Ma_push 13 = .ok (.putfield 68, 3) := by decide +kernel
theorem d_Ma_push_16 : decode b_Ma_push 16 = .ok (.return_, 1) := by decide +kernel
theorem d_Ma_push_17 : decode b_Ma_push 17 = .ok (.aload_n 0, 1) := by decide +kernel
theorem d_Ma_push_18 : decode b_Ma_push 18 = .ok (.getfield 22, 3) := by decide +kernel
theorem d_Ma_push_21 : decode b_Ma_push 21 = .ok (.aload_n 0, 1) := by decide +kernel
theorem d_Ma_push_22 : decode b_Ma_push 22 = .ok (.getfield 74, 3) := by decide +kernel
theorem d_Ma_push_25 : decode b_Ma_push 25 = .ok (.lload_n 1, 1) := by decide +kernel
theorem d_Ma_push_26 : decode b_Ma_push 26 = .ok (.lastore, 1) := by decide +kernel
theorem d_Ma_push_27 : decode b_Ma_push 27 = .ok (.aload_n 0, 1) := by decide +kernel
theorem d_Ma_push_28 : decode b_Ma_push 28 = .ok (.dup, 1) := by decide +kernel
theorem d_Ma_push_29 : decode b_Ma_push 29 = .ok (.getfield 74, 3) := by decide +kernel
theorem d_Ma_push_32 : decode b_Ma_push 32 = .ok (.iconst 1, 1) := by decide +kernel
theorem d_Ma_push_33 : decode b_Ma_push 33 = .ok (.iadd, 1) := by decide +kernel
theorem d_Ma_push_34 : decode b_Ma_push 34 = .ok (.putfield 74, 3) := by decide +kernel
theorem d_Ma_push_37 : decode b_Ma_push 37 = .ok (.return_, 1) := by decide +kernel
theorem d_Ma_pop_0 : decode b_Ma_pop 0 = .ok (.aload_n 0, 1) := by decide +kernel
theorem d_Ma_pop_1 : decode b_Ma_pop 1 = .ok (.dup, 1) := by decide +kernel
theorem d_Ma_pop_2 : decode b_Ma_pop 2 = .ok (.getfield 74, 3) := by decide +kernel
theorem d_Ma_pop_5 : decode b_Ma_pop 5 = .ok (.iconst 1, 1) := by decide +kernel
theorem d_Ma_pop_6 : decode b_Ma_pop 6 = .ok (.isub, 1) := by decide +kernel
theorem d_Ma_pop_7 : decode b_Ma_pop 7 = .ok (.putfield 74, 3) := by decide +kernel
theorem d_Ma_pop_10 : decode b_Ma_pop 10 = .ok (.aload_n 0, 1) := by decide +kernel
theorem d_Ma_pop_11 : decode b_Ma_pop 11 = .ok (.getfield 22, 3) := by decide +kernel
theorem d_Ma_pop_14 : decode b_Ma_pop 14 = .ok (.aload_n 0, 1) := by decide +kernel
theorem d_Ma_pop_15 : decode b_Ma_pop 15 = .ok (.getfield 74, 3) := by decide +kernel
theorem d_Ma_pop_18 : decode b_Ma_pop 18 = .ok (.laload, 1) := by decide +kernel
theorem d_Ma_pop_19 : decode b_Ma_pop 19 = .ok (.lreturn, 1) := by decide +kernel
theorem d_Ma_select_0 : decode b_Ma_select 0 = .ok (.aload_n 0, 1) := by decide +kernel
theorem d_Ma_select_1 : decode b_Ma_select 1 = .ok (.invokevirtual 142, 3) := by decide +kernel
theorem d_Ma_select_4 : decode b_Ma_select 4 = .ok (.lstore_n 1, 1) := by decide +kernel
theorem d_Ma_select_5 : decode b_Ma_select 5 = .ok (.aload_n 0, 1) := by decide +kernel
theorem d_Ma_select_6 : decode b_Ma_select 6 = .ok (.invokevirtual 142, 3) := by decide +kernel
theorem d_Ma_select_9 : decode b_Ma_select 9 = .ok (.lstore_n 3, 1) := by decide +kernel
theorem d_Ma_select_10 : decode b_Ma_select 10 = .ok (.aload_n 0, 1) := by decide +kernel
theorem d_Ma_select_11 : decode b_Ma_select 11 = .ok (.invokevirtual 142, 3) := by decide +kernel
theorem d_Ma_select_14 : decode b_Ma_select 14 = .ok (.lstore 5, 2) := by decide +kernel
theorem d_Ma_select_16 : decode b_Ma_select 16 = .ok (.aload_n 0, 1) := by decide +kernel
theorem d_Ma_select_17 : decode b_Ma_select 17 = .ok (.lload_n 1, 1) := by decide +kernel
theorem d_Ma_select_18 : decode b_Ma_select 18 = .ok (.lconst 0, 1) := by decide +kernel
theorem d_Ma_select_19 : decode b_Ma_select 19 = .ok (.lcmp, 1) := by decide +kernel
theorem d_Ma_select_20 : decode b_Ma_select 20 = .ok (.ifCond .eq 8, 3) := by decide +kernel
theorem d_Ma_select_23 : decode b_Ma_select 23 = .ok (.lload 5, 2) := by decide +kernel
theorem d_Ma_select_25 : decode b_Ma_select 25 = .ok (.goto 4, 3) := by decide +kernel
theorem d_Ma_select_28 : decode b_Ma_select 28 = .ok (.lload_n 3, 1) := by decide +kernel
theorem d_Ma_select_29 : decode b_Ma_select 29 = .ok (.invokevirtual 88, 3) := by decide +kernel
theorem d_Ma_select_32 : decode b_Ma_select 32 = .ok (.return_, 1) := by decide +kernel
theorem d_Ma_unwind_0 : decode b_Ma_unwind 0 = .ok (.iload_n 2, 1) := by decide +kernel
theorem d_Ma_unwind_1 : decode b_Ma_unwind 1 = .ok (.bipush 64, 2) := by decide +kernel
theorem d_Ma_unwind_3 : decode b_Ma_unwind 3 = .ok (.if_icmp .ne 7, 3) := by decide +kernel
theorem d_Ma_unwind_6 : decode b_Ma_unwind 6 = .ok (.lconst 0, 1) := by decide +kernel
theorem d_Ma_unwind_7 : decode b_Ma_unwind 7 = .ok (.goto 7, 3) := by decide +kernel
theorem d_Ma_unwind_10 : decode b_Ma_unwind 10 = .ok (.aload_n 0, 1) := by decide +kernel
theorem d_Ma_unwind_11 : decode b_Ma_unwind 11 = .ok (.invokevirtual 142, 3) := by decide +kernel
theorem d_Ma_unwind_14 : decode b_Ma_unwind 14 = .ok (.lstore_n 3, 1) := by decide +kernel
theorem d_Ma_unwind_15 : decode b_Ma_unwind 15 = .ok (.aload_n 0, 1) := by decide +kernel
theorem d_Ma_unwind_16 : decode b_Ma_unwind 16 = .ok (.iload_n 1, 1) := by decide +kernel
theorem d_Ma_unwind_17 : decode b_Ma_unwind 17 = .ok (.putfield 74, 3) := by decide +kernel
theorem d_Ma_unwind_20 : decode b_Ma_unwind 20 = .ok (.iload_n 2, 1) := by decide +kernel
theorem d_Ma_unwind_21 : decode b_Ma_unwind 21 = .ok (.bipush 64, 2) := by decide +kernel
theorem d_Ma_unwind_23 : decode b_Ma_unwind 23 = .ok (.if_icmp .eq 8, 3) := by decide +kernel
theorem d_Ma_unwind_26 : decode b_Ma_unwind 26 = .ok (.aload_n 0, 1) := by decide +kernel
theorem d_Ma_unwind_27 : decode b_Ma_unwind 27 = .ok (.lload_n 3, 1) := by decide +kernel
theorem d_Ma_unwind_28 : decode b_Ma_unwind 28 = .ok (.invokevirtual 88, 3) := by decide +kernel
theorem d_Ma_unwind_31 : decode b_Ma_unwind 31 = .ok (.return_, 1) := by decide +kernel
theorem d_Ma_enter_0 : decode b_Ma_enter 0 = .ok (.aload_n 0, 1) := by decide +kernel
theorem d_Ma_enter_1 : decode b_Ma_enter 1 = .ok (.getfield 45, 3) := by decide +kernel
theorem d_Ma_enter_4 : decode b_Ma_enter 4 = .ok (.getfield 177, 3) := by decide +kernel
theorem d_Ma_enter_7 : decode b_Ma_enter 7 = .ok (.iload_n 1, 1) := by decide +kernel
theorem d_Ma_enter_8 : decode b_Ma_enter 8 = .ok (.iaload, 1) := by decide +kernel
theorem d_Ma_enter_9 : decode b_Ma_enter 9 = .ok (.istore_n 2, 1) := by decide +kernel
theorem d_Ma_enter_10 : decode b_Ma_enter 10 = .ok (.aload_n 0, 1) := by decide +kernel
theorem d_Ma_enter_11 : decode b_Ma_enter 11 = .ok (.getfield 77, 3) := by decide +kernel
theorem d_Ma_enter_14 : decode b_Ma_enter 14 = .ok (.bipush 100, 2) := by decide +kernel
theorem d_Ma_enter_16 : decode b_Ma_enter 16 = .ok (.if_icmp .ge 15, 3) := by decide +kernel
theorem d_Ma_enter_19 : decode b_Ma_enter 19 = .ok (.aload_n 0, 1) := by decide +kernel
theorem d_Ma_enter_20 : decode b_Ma_enter 20 = .ok (.getfield 74, 3) := by decide +kernel
theorem d_Ma_enter_23 : decode b_Ma_enter 23 = .ok (.iload_n 2, 1) := by decide +kernel
theorem d_Ma_enter_24 : decode b_Ma_enter 24 = .ok (.iadd, 1) := by decide +kernel
theorem d_Ma_enter_25 : decode b_Ma_enter 25 = .ok (.sipush 12096, 3) := by decide +kernel
theorem d_Ma_enter_28 : decode b_Ma_enter 28 = .ok (.if_icmp .le 10, 3) := by decide +kernel
theorem d_Ma_enter_31 : decode b_Ma_enter 31 = .ok (.aload_n 0, 1) := by decide +kernel
theorem d_Ma_enter_32 : decode b_Ma_enter 32 = .ok (.bipush 7, 2) := by decide +kernel
theorem d_Ma_enter_34 : decode b_Ma_enter 34 = .ok (.putfield 68, 3) := by decide +kernel
theorem d_Ma_enter_37 : decode b_Ma_enter 37 = .ok (.return_, 1) := by decide +kernel
theorem d_Ma_enter_38 : decode b_Ma_enter 38 = .ok (.aload_n 0, 1) := by decide +kernel
theorem d_Ma_enter_39 : decode b_Ma_enter 39 = .ok (.getfield 25, 3) := by decide +kernel
theorem d_Ma_enter_42 : decode b_Ma_enter 42 = .ok (.aload_n 0, 1) := by decide +kernel
theorem d_Ma_enter_43 : decode b_Ma_enter 43 = .ok (.getfield 77, 3) := by decide +kernel
theorem d_Ma_enter_46 : decode b_Ma_enter 46 = .ok (.iload_n 1, 1) := by decide +kernel
theorem d_Ma_enter_47 : decode b_Ma_enter 47 = .ok (.iastore, 1) := by decide +kernel
theorem d_Ma_enter_48 : decode b_Ma_enter 48 = .ok (.aload_n 0, 1) := by decide +kernel
theorem d_Ma_enter_49 : decode b_Ma_enter 49 = .ok (.getfield 29, 3) := by decide +kernel
theorem d_Ma_enter_52 : decode b_Ma_enter 52 = .ok (.aload_n 0, 1) := by decide +kernel
theorem d_Ma_enter_53 : decode b_Ma_enter 53 = .ok (.getfield 77, 3) := by decide +kernel
theorem d_Ma_enter_56 : decode b_Ma_enter 56 = .ok (.aload_n 0, 1) := by decide +kernel
theorem d_Ma_enter_57 : decode b_Ma_enter 57 = .ok (.getfield 74, 3) := by decide +kernel
theorem d_Ma_enter_60 : decode b_Ma_enter 60 = .ok (.aload_n 0, 1) := by decide +kernel
theorem d_Ma_enter_61 : decode b_Ma_enter 61 = .ok (.getfield 45, 3) := by decide +kernel
theorem d_Ma_enter_64 : decode b_Ma_enter 64 = .ok (.iload_n 1, 1) := by decide +kernel
theorem d_Ma_enter_65 : decode b_Ma_enter 65 = .ok (.invokevirtual 80, 3) := by decide +kernel
theorem d_Ma_enter_68 : decode b_Ma_enter 68 = .ok (.isub, 1) := by decide +kernel
theorem d_Ma_enter_69 : decode b_Ma_enter 69 = .ok (.iastore, 1) := by decide +kernel
theorem d_Ma_enter_70 : decode b_Ma_enter 70 = .ok (.aload_n 0, 1) := by decide +kernel
theorem d_Ma_enter_71 : decode b_Ma_enter 71 = .ok (.getfield 32, 3) := by decide +kernel
theorem d_Ma_enter_74 : decode b_Ma_enter 74 = .ok (.aload_n 0, 1) := by decide +kernel
theorem d_Ma_enter_75 : decode b_Ma_enter 75 = .ok (.getfield 77, 3) := by decide +kernel
theorem d_Ma_enter_78 : decode b_Ma_enter 78 = .ok (.aload_n 0, 1) := by decide +kernel
theorem d_Ma_enter_79 : decode b_Ma_enter 79 = .ok (.getfield 97, 3) := by decide +kernel
theorem d_Ma_enter_82 : decode b_Ma_enter 82 = .ok (.iastore, 1) := by decide +kernel
theorem d_Ma_enter_83 : decode b_Ma_enter 83 = .ok (.aload_n 0, 1) := by decide +kernel
theorem d_Ma_enter_84 : decode b_Ma_enter 84 = .ok (.dup, 1) := by decide +kernel
theorem d_Ma_enter_85 : decode b_Ma_enter 85 = .ok (.getfield 77, 3) := by decide +kernel
theorem d_Ma_enter_88 : decode b_Ma_enter 88 = .ok (.iconst 1, 1) := by decide +kernel
theorem d_Ma_enter_89 : decode b_Ma_enter 89 = .ok (.iadd, 1) := by decide +kernel
theorem d_Ma_enter_90 : decode b_Ma_enter 90 = .ok (.putfield 77, 3) := by decide +kernel
theorem d_Ma_enter_93 : decode b_Ma_enter 93 = .ok (.iconst 0, 1) := by decide +kernel
theorem d_Ma_enter_94 : decode b_Ma_enter 94 = .ok (.istore_n 3, 1) := by decide +kernel
theorem d_Ma_enter_95 : decode b_Ma_enter 95 = .ok (.iload_n 3, 1) := by decide +kernel
theorem d_Ma_enter_96 : decode b_Ma_enter 96 = .ok (.iload_n 2, 1) := by decide +kernel
theorem d_Ma_enter_97 : decode b_Ma_enter 97 = .ok (.if_icmp .ge 14, 3) := by decide +kernel
theorem d_Ma_enter_100 : decode b_Ma_enter 100 = .ok (.aload_n 0, 1) := by decide +kernel
theorem d_Ma_enter_101 : decode b_Ma_enter 101 = .ok (.lconst 0, 1) := by decide +kernel
theorem d_Ma_enter_102 : decode b_Ma_enter 102 = .ok (.invokevirtual 88, 3) := by decide +kernel
theorem d_Ma_enter_105 : decode b_Ma_enter 105 = .ok (.iinc 3 1, 3) := by decide +kernel
theorem d_Ma_enter_108 : decode b_Ma_enter 108 = .ok (.goto (-13), 3) := by decide +kernel
theorem d_Ma_enter_111 : decode b_Ma_enter 111 = .ok (.aload_n 0, 1) := by decide +kernel
theorem d_Ma_enter_112 : decode b_Ma_enter 112 = .ok (.aload_n 0, 1) := by decide +kernel
theorem d_Ma_enter_113 : decode b_Ma_enter 113 = .ok (.getfield 29, 3) := by decide +kernel
theorem d_Ma_enter_116 : decode b_Ma_enter 116 = .ok (.aload_n 0, 1) := by decide +kernel
theorem d_Ma_enter_117 : decode b_Ma_enter 117 = .ok (.getfield 77, 3) := by decide +kernel
theorem d_Ma_enter_120 : decode b_Ma_enter 120 = .ok (.iconst 1, 1) := by decide +kernel
theorem d_Ma_enter_121 : decode b_Ma_enter 121 = .ok (.isub, 1) := by decide +kernel
theorem d_Ma_enter_122 : decode b_Ma_enter 122 = .ok (.iaload, 1) := by decide +kernel
theorem d_Ma_enter_123 : decode b_Ma_enter 123 = .ok (.putfield 180, 3) := by decide +kernel
theorem d_Ma_enter_126 : decode b_Ma_enter 126 = .ok (.aload_n 0, 1) := by decide +kernel
theorem d_Ma_enter_127 : decode b_Ma_enter 127 = .ok (.aload_n 0, 1) := by decide +kernel
theorem d_Ma_enter_128 : decode b_Ma_enter 128 = .ok (.getfield 74, 3) := by decide +kernel
theorem d_Ma_enter_131 : decode b_Ma_enter 131 = .ok (.putfield 169, 3) := by decide +kernel
theorem d_Ma_enter_134 : decode b_Ma_enter 134 = .ok (.aload_n 0, 1) := by decide +kernel
theorem d_Ma_enter_135 : decode b_Ma_enter 135 = .ok (.aload_n 0, 1) := by decide +kernel
theorem d_Ma_enter_136 : decode b_Ma_enter 136 = .ok (.getfield 45, 3) := by decide +kernel
theorem d_Ma_enter_139 : decode b_Ma_enter 139 = .ok (.getfield 183, 3) := by decide +kernel
theorem d_Ma_enter_142 : decode b_Ma_enter 142 = .ok (.iload_n 1, 1) := by decide +kernel
theorem d_Ma_enter_143 : decode b_Ma_enter 143 = .ok (.iaload, 1) := by decide +kernel
theorem d_Ma_enter_144 : decode b_Ma_enter 144 = .ok (.putfield 97, 3) := by decide +kernel
theorem d_Ma_enter_147 : decode b_Ma_enter 147 = .ok (.return_, 1) := by decide +kernel
theorem d_Ma_leave_0 : decode b_Ma_leave 0 = .ok (.aload_n 0, 1) := by decide +kernel
theorem d_Ma_leave_1 : decode b_Ma_leave 1 = .ok (.dup, 1) := by decide +kernel
theorem d_Ma_leave_2 : decode b_Ma_leave 2 = .ok (.getfield 77, 3) := by decide +kernel
theorem d_Ma_leave_5 : decode b_Ma_leave 5 = .ok (.iconst 1, 1) := by decide +kernel
theorem d_Ma_leave_6 : decode b_Ma_leave 6 = .ok (.isub, 1) := by decide +kernel
theorem d_Ma_leave_7 : decode b_Ma_leave 7 = .ok (.putfield 77, 3) := by decide +kernel
theorem d_Ma_leave_10 : decode b_Ma_leave 10 = .ok (.aload_n 0, 1) := by decide +kernel
theorem d_Ma_leave_11 : decode b_Ma_leave 11 = .ok (.aload_n 0, 1) := by decide +kernel
theorem d_Ma_leave_12 : decode b_Ma_leave 12 = .ok (.getfield 180, 3) := by decide +kernel
theorem d_Ma_leave_15 : decode b_Ma_leave 15 = .ok (.aload_n 0, 1) := by decide +kernel
theorem d_Ma_leave_16 : decode b_Ma_leave 16 = .ok (.getfield 45, 3) := by decide +kernel
theorem d_Ma_leave_19 : decode b_Ma_leave 19 = .ok (.aload_n 0, 1) := by decide +kernel
theorem d_Ma_leave_20 : decode b_Ma_leave 20 = .ok (.getfield 25, 3) := by decide +kernel
theorem d_Ma_leave_23 : decode b_Ma_leave 23 = .ok (.aload_n 0, 1) := by decide +kernel
theorem d_Ma_leave_24 : decode b_Ma_leave 24 = .ok (.getfield 77, 3) := by decide +kernel
theorem d_Ma_leave_27 : decode b_Ma_leave 27 = .ok (.iaload, 1) := by decide +kernel
theorem d_Ma_leave_28 : decode b_Ma_leave 28 = .ok (.invokevirtual 117, 3) := by decide +kernel
theorem d_Ma_leave_31 : decode b_Ma_leave 31 = .ok (.invokevirtual 174, 3) := by decide +kernel
theorem d_Ma_leave_34 : decode b_Ma_leave 34 = .ok (.aload_n 0, 1) := by decide +kernel
theorem d_Ma_leave_35 : decode b_Ma_leave 35 = .ok (.aload_n 0, 1) := by decide +kernel
theorem d_Ma_leave_36 : decode b_Ma_leave 36 = .ok (.getfield 32, 3) := by decide +kernel
theorem d_Ma_leave_39 : decode b_Ma_leave 39 = .ok (.aload_n 0, 1) := by decide +kernel
theorem d_Ma_leave_40 : decode b_Ma_leave 40 = .ok (.getfield 77, 3) := by decide +kernel
theorem d_Ma_leave_43 : decode b_Ma_leave 43 = .ok (.iaload, 1) := by decide +kernel
theorem d_Ma_leave_44 : decode b_Ma_leave 44 = .ok (.putfield 97, 3) := by decide +kernel
theorem d_Ma_leave_47 : decode b_Ma_leave 47 = .ok (.aload_n 0, 1) := by decide +kernel
theorem d_Ma_leave_48 : decode b_Ma_leave 48 = .ok (.getfield 77, 3) := by decide +kernel
theorem d_Ma_leave_51 : decode b_Ma_leave 51 = .ok (.ifCond .le 57, 3) := by decide +kernel
theorem d_Ma_leave_54 : decode b_Ma_leave 54 = .ok (.aload_n 0, 1) := by decide +kernel
theorem d_Ma_leave_55 : decode b_Ma_leave 55 = .ok (.getfield 25, 3) := by decide +kernel
theorem d_Ma_leave_58 : decode b_Ma_leave 58 = .ok (.aload_n 0, 1) := by decide +kernel
theorem d_Ma_leave_59 : decode b_Ma_leave 59 = .ok (.getfield 77, 3) := by decide +kernel
theorem d_Ma_leave_62 : decode b_Ma_leave 62 = .ok (.iconst 1, 1) := by decide +kernel
theorem d_Ma_leave_63 : decode b_Ma_leave 63 = .ok (.isub, 1) := by decide +kernel
theorem d_Ma_leave_64 : decode b_Ma_leave 64 = .ok (.iaload, 1) := by decide +kernel
theorem d_Ma_leave_65 : decode b_Ma_leave 65 = .ok (.istore_n 1, 1) := by decide +kernel
theorem d_Ma_leave_66 : decode b_Ma_leave 66 = .ok (.aload_n 0, 1) := by decide +kernel
theorem d_Ma_leave_67 : decode b_Ma_leave 67 = .ok (.aload_n 0, 1) := by decide +kernel
theorem d_Ma_leave_68 : decode b_Ma_leave 68 = .ok (.getfield 29, 3) := by decide +kernel
theorem d_Ma_leave_71 : decode b_Ma_leave 71 = .ok (.aload_n 0, 1) := by decide +kernel
theorem d_Ma_leave_72 : decode b_Ma_leave 72 = .ok (.getfield 77, 3) := by decide +kernel
theorem d_Ma_leave_75 : decode b_Ma_leave 75 = .ok (.iconst 1, 1) := by decide +kernel
theorem d_Ma_leave_76 : decode b_Ma_leave 76 = .ok (.isub, 1) := by decide +kernel
theorem d_Ma_leave_77 : decode b_Ma_leave 77 = .ok (.iaload, 1) := by decide +kernel
theorem d_Ma_leave_78 : decode b_Ma_leave 78 = .ok (.putfield 180, 3) := by decide +kernel
theorem d_Ma_leave_81 : decode b_Ma_leave 81 = .ok (.aload_n 0, 1) := by decide +kernel
theorem d_Ma_leave_82 : decode b_Ma_leave 82 = .ok (.aload_n 0, 1) := by decide +kernel
theorem d_Ma_leave_83 : decode b_Ma_leave 83 = .ok (.getfield 180, 3) := by decide +kernel
theorem d_Ma_leave_86 : decode b_Ma_leave 86 = .ok (.aload_n 0, 1) := by decide +kernel
theorem d_Ma_leave_87 : decode b_Ma_leave 87 = .ok (.getfield 45, 3) := by decide +kernel
theorem d_Ma_leave_90 : decode b_Ma_leave 90 = .ok (.iload_n 1, 1) := by decide +kernel
theorem d_Ma_leave_91 : decode b_Ma_leave 91 = .ok (.invokevirtual 80, 3) := by decide +kernel
theorem d_Ma_leave_94 : decode b_Ma_leave 94 = .ok (.iadd, 1) := by decide +kernel
theorem d_Ma_leave_95 : decode b_Ma_leave 95 = .ok (.aload_n 0, 1) := by decide +kernel
theorem d_Ma_leave_96 : decode b_Ma_leave 96 = .ok (.getfield 45, 3) := by decide +kernel
theorem d_Ma_leave_99 : decode b_Ma_leave 99 = .ok (.getfield 177, 3) := by decide +kernel
theorem d_Ma_leave_102 : decode b_Ma_leave 102 = .ok (.iload_n 1, 1) := by decide +kernel
theorem d_Ma_leave_103 : decode b_Ma_leave 103 = .ok (.iaload, 1) := by decide +kernel
theorem d_Ma_leave_104 : decode b_Ma_leave 104 = .ok (.iadd, 1) := by decide +kernel
theorem d_Ma_leave_105 : decode b_Ma_leave 105 = .ok (.putfield 169, 3) := by decide +kernel
theorem d_Ma_leave_108 : decode b_Ma_leave 108 = .ok (.return_, 1) := by decide +kernel
theorem d_Ma_branch_0 : decode b_Ma_branch 0 = .ok (.iload_n 1, 1) := by decide +kernel
theorem d_Ma_branch_1 : decode b_Ma_branch 1 = .ok (.ifCond .ge 10, 3) := by decide +kernel
theorem d_Ma_branch_4 : decode b_Ma_branch 4 = .ok (.aload_n 0, 1) := by decide +kernel
theorem d_Ma_branch_5 : decode b_Ma_branch 5 = .ok (.invokevirtual 107, 3) := by decide +kernel
theorem d_Ma_branch_8 : decode b_Ma_branch 8 = .ok (.goto 86, 3) := by decide +kernel
theorem d_Ma_branch_11 : decode b_Ma_branch 11 = .ok (.aload_n 0, 1) := by decide +kernel
theorem d_Ma_branch_12 : decode b_Ma_branch 12 = .ok (.getfield 53, 3) := by decide +kernel
theorem d_Ma_branch_15 : decode b_Ma_branch 15 = .ok (.getfield 100, 3) := by decide +kernel
theorem d_Ma_branch_18 : decode b_Ma_branch 18 = .ok (.iload_n 1, 1) := by decide +kernel
theorem d_Ma_branch_19 : decode b_Ma_branch 19 = .ok (.iaload, 1) := by decide +kernel
theorem d_Ma_branch_20 : decode b_Ma_branch 20 = .ok (.iconst 3, 1) := by decide +kernel
theorem d_Ma_branch_21 : decode b_Ma_branch 21 = .ok (.if_icmp .ne 31, 3) := by decide +kernel
theorem d_Ma_branch_24 : decode b_Ma_branch 24 = .ok (.aload_n 0, 1) := by decide +kernel
theorem d_Ma_branch_25 : decode b_Ma_branch 25 = .ok (.aload_n 0, 1) := by decide +kernel
theorem d_Ma_branch_26 : decode b_Ma_branch 26 = .ok (.getfield 169, 3) := by decide +kernel
theorem d_Ma_branch_29 : decode b_Ma_branch 29 = .ok (.aload_n 0, 1) := by decide +kernel
theorem d_Ma_branch_30 : decode b_Ma_branch 30 = .ok (.getfield 53, 3) := by decide +kernel
theorem d_Ma_branch_33 : decode b_Ma_branch 33 = .ok (.getfield 171, 3) := by decide +kernel
theorem d_Ma_branch_36 : decode b_Ma_branch 36 = .ok (.iload_n 1, 1) := by decide +kernel
theorem d_Ma_branch_37 : decode b_Ma_branch 37 = .ok (.iaload, 1) := by decide +kernel
theorem d_Ma_branch_38 : decode b_Ma_branch 38 = .ok (.iadd, 1) := by decide +kernel
theorem d_Ma_branch_39 : decode b_Ma_branch 39 = .ok (.putfield 74, 3) := by decide +kernel
theorem d_Ma_branch_42 : decode b_Ma_branch 42 = .ok (.aload_n 0, 1) := by decide +kernel
theorem d_Ma_branch_43 : decode b_Ma_branch 43 = .ok (.iload_n 1, 1) := by decide +kernel
theorem d_Ma_branch_44 : decode b_Ma_branch 44 = .ok (.iconst 1, 1) := by decide +kernel
theorem d_Ma_branch_45 : decode b_Ma_branch 45 = .ok (.iadd, 1) := by decide +kernel
theorem d_Ma_branch_46 : decode b_Ma_branch 46 = .ok (.putfield 97, 3) := by decide +kernel
theorem d_Ma_branch_49 : decode b_Ma_branch 49 = .ok (.goto 45, 3) := by decide +kernel
theorem d_Ma_branch_52 : decode b_Ma_branch 52 = .ok (.aload_n 0, 1) := by decide +kernel
theorem d_Ma_branch_53 : decode b_Ma_branch 53 = .ok (.aload_n 0, 1) := by decide +kernel
theorem d_Ma_branch_54 : decode b_Ma_branch 54 = .ok (.getfield 169, 3) := by decide +kernel
theorem d_Ma_branch_57 : decode b_Ma_branch 57 = .ok (.aload_n 0, 1) := by decide +kernel
theorem d_Ma_branch_58 : decode b_Ma_branch 58 = .ok (.getfield 53, 3) := by decide +kernel
theorem d_Ma_branch_61 : decode b_Ma_branch 61 = .ok (.getfield 171, 3) := by decide +kernel
theorem d_Ma_branch_64 : decode b_Ma_branch 64 = .ok (.iload_n 1, 1) := by decide +kernel
theorem d_Ma_branch_65 : decode b_Ma_branch 65 = .ok (.iaload, 1) := by decide +kernel
theorem d_Ma_branch_66 : decode b_Ma_branch 66 = .ok (.iadd, 1) := by decide +kernel
theorem d_Ma_branch_67 : decode b_Ma_branch 67 = .ok (.aload_n 0, 1) := by decide +kernel
theorem d_Ma_branch_68 : decode b_Ma_branch 68 = .ok (.getfield 53, 3) := by decide +kernel
theorem d_Ma_branch_71 : decode b_Ma_branch 71 = .ok (.getfield 166, 3) := by decide +kernel
theorem d_Ma_branch_74 : decode b_Ma_branch 74 = .ok (.iload_n 1, 1) := by decide +kernel
theorem d_Ma_branch_75 : decode b_Ma_branch 75 = .ok (.iaload, 1) := by decide +kernel
theorem d_Ma_branch_76 : decode b_Ma_branch 76 = .ok (.invokevirtual 174, 3) := by decide +kernel
theorem d_Ma_branch_79 : decode b_Ma_branch 79 = .ok (.aload_n 0, 1) := by decide +kernel
theorem d_Ma_branch_80 : decode b_Ma_branch 80 = .ok (.aload_n 0, 1) := by decide +kernel
theorem d_Ma_branch_81 : decode b_Ma_branch 81 = .ok (.getfield 53, 3) := by decide +kernel
theorem d_Ma_branch_84 : decode b_Ma_branch 84 = .ok (.getfield 110, 3) := by decide +kernel
theorem d_Ma_branch_87 : decode b_Ma_branch 87 = .ok (.iload_n 1, 1) := by decide +kernel
theorem d_Ma_branch_88 : decode b_Ma_branch 88 = .ok (.iaload, 1) := by decide +kernel
theorem d_Ma_branch_89 : decode b_Ma_branch 89 = .ok (.iconst 1, 1) := by decide +kernel
theorem d_Ma_branch_90 : decode b_Ma_branch 90 = .ok (.iadd, 1) := by decide +kernel
theorem d_Ma_branch_91 : decode b_Ma_branch 91 = .ok (.putfield 97, 3) := by decide +kernel
theorem d_Ma_branch_94 : decode b_Ma_branch 94 = .ok (.return_, 1) := by decide +kernel
theorem d_Ma_grow_0 : decode b_Ma_grow 0 = .ok (.aload_n 0, 1) := by decide +kernel
theorem d_Ma_grow_1 : decode b_Ma_grow 1 = .ok (.getfield 58, 3) := by decide +kernel
theorem d_Ma_grow_4 : decode b_Ma_grow 4 = .ok (.i2l, 1) := by decide +kernel
theorem d_Ma_grow_5 : decode b_Ma_grow 5 = .ok (.lload_n 1, 1) := by decide +kernel
theorem d_Ma_grow_6 : decode b_Ma_grow 6 = .ok (.ladd, 1) := by decide +kernel
theorem d_Ma_grow_7 : decode b_Ma_grow 7 = .ok (.aload_n 0, 1) := by decide +kernel
theorem d_Ma_grow_8 : decode b_Ma_grow 8 = .ok (.getfield 45, 3) := by decide +kernel
theorem d_Ma_grow_11 : decode b_Ma_grow 11 = .ok (.getfield 204, 3) := by decide +kernel
theorem d_Ma_grow_14 : decode b_Ma_grow 14 = .ok (.ldc2_w 207, 3) := by decide +kernel
theorem d_Ma_grow_17 : decode b_Ma_grow 17 = .ok (.invokestatic 157, 3) := by decide +kernel
theorem d_Ma_grow_20 : decode b_Ma_grow 20 = .ok (.lcmp, 1) := by decide +kernel
theorem d_Ma_grow_21 : decode b_Ma_grow 21 = .ok (.ifCond .le 11, 3) := by decide +kernel
theorem d_Ma_grow_24 : decode b_Ma_grow 24 = .ok (.aload_n 0, 1) := by decide +kernel
theorem d_Ma_grow_25 : decode b_Ma_grow 25 = .ok (.ldc2_w 209, 3) := by decide +kernel
theorem d_Ma_grow_28 : decode b_Ma_grow 28 = .ok (.invokevirtual 88, 3) := by decide +kernel
theorem d_Ma_grow_31 : decode b_Ma_grow 31 = .ok (.return_, 1) := by decide +kernel
theorem d_Ma_grow_32 : decode b_Ma_grow 32 = .ok (.aload_n 0, 1) := by decide +kernel
theorem d_Ma_grow_33 : decode b_Ma_grow 33 = .ok (.aload_n 0, 1) := by decide +kernel
theorem d_Ma_grow_34 : decode b_Ma_grow 34 = .ok (.getfield 58, 3) := by decide +kernel
theorem d_Ma_grow_37 : decode b_Ma_grow 37 = .ok (.i2l, 1) := by decide +kernel
theorem d_Ma_grow_38 : decode b_Ma_grow 38 = .ok (.invokevirtual 88, 3) := by decide +kernel
theorem d_Ma_grow_41 : decode b_Ma_grow 41 = .ok (.aload_n 0, 1) := by decide +kernel
theorem d_Ma_grow_42 : decode b_Ma_grow 42 = .ok (.dup, 1) := by decide +kernel
theorem d_Ma_grow_43 : decode b_Ma_grow 43 = .ok (.getfield 58, 3) := by decide +kernel
theorem d_Ma_grow_46 : decode b_Ma_grow 46 = .ok (.lload_n 1, 1) := by decide +kernel
theorem d_Ma_grow_47 : decode b_Ma_grow 47 = .ok (.l2i, 1) := by decide +kernel
theorem d_Ma_grow_48 : decode b_Ma_grow 48 = .ok (.iadd, 1) := by decide +kernel
theorem d_Ma_grow_49 : decode b_Ma_grow 49 = .ok (.putfield 58, 3) := by decide +kernel
theorem d_Ma_grow_52 : decode b_Ma_grow 52 = .ok (.return_, 1) := by decide +kernel
theorem d_Ma_isInside_0 : decode b_Ma_isInside 0 = .ok (.lload_n 1, 1) := by decide +kernel
theorem d_Ma_isInside_1 : decode b_Ma_isInside 1 = .ok (.iload_n 3, 1) := by decide +kernel
theorem d_Ma_isInside_2 : decode b_Ma_isInside 2 = .ok (.i2l, 1) := by decide +kernel
theorem d_Ma_isInside_3 : decode b_Ma_isInside 3 = .ok (.ladd, 1) := by decide +kernel
theorem d_Ma_isInside_4 : decode b_Ma_isInside 4 = .ok (.aload_n 0, 1) := by decide +kernel
theorem d_Ma_isInside_5 : decode b_Ma_isInside 5 = .ok (.getfield 58, 3) := by decide +kernel
theorem d_Ma_isInside_8 : decode b_Ma_isInside 8 = .ok (.i2l, 1) := by decide +kernel
theorem d_Ma_isInside_9 : decode b_Ma_isInside 9 = .ok (.ldc2_w 211, 3) := by decide +kernel
theorem d_Ma_isInside_12 : decode b_Ma_isInside 12 = .ok (.lmul, 1) := by decide +kernel
theorem d_Ma_isInside_13 : decode b_Ma_isInside 13 = .ok (.lcmp, 1) := by decide +kernel
theorem d_Ma_isInside_14 : decode b_Ma_isInside 14 = .ok (.ifCond .le 11, 3) := by decide +kernel
theorem d_Ma_isInside_17 : decode b_Ma_isInside 17 = .ok (.aload_n 0, 1) := by decide +kernel
theorem d_Ma_isInside_18 : decode b_Ma_isInside 18 = .ok (.bipush 6, 2) := by decide +kernel
theorem d_Ma_isInside_20 : decode b_Ma_isInside 20 = .ok (.putfield 68, 3) := by decide +kernel
theorem d_Ma_isInside_23 : decode b_Ma_isInside 23 = .ok (.iconst 0, 1) := by decide +kernel
theorem d_Ma_isInside_24 : decode b_Ma_isInside 24 = .ok (.ireturn, 1) := by decide +kernel
theorem d_Ma_isInside_25 : decode b_Ma_isInside 25 = .ok (.iconst 1, 1) := by decide +kernel
theorem d_Ma_isInside_26 : decode b_Ma_isInside 26 = .ok (.ireturn, 1) := by decide +kernel
theorem d_Ma_load_0 : decode b_Ma_load 0 = .ok (.iload_n 1, 1) := by decide +kernel
theorem d_Ma_load_1 : decode b_Ma_load 1 = .ok (.invokestatic 213, 3) := by decide +kernel
theorem d_Ma_load_4 : decode b_Ma_load 4 = .ok (.istore 4, 2) := by decide +kernel
theorem d_Ma_load_6 : decode b_Ma_load 6 = .ok (.aload_n 0, 1) := by decide +kernel
theorem d_Ma_load_7 : decode b_Ma_load 7 = .ok (.lload_n 2, 1) := by decide +kernel
theorem d_Ma_load_8 : decode b_Ma_load 8 = .ok (.iload 4, 2) := by decide +kernel
theorem d_Ma_load_10 : decode b_Ma_load 10 = .ok (.invokevirtual 216, 3) := by decide +kernel
theorem d_Ma_load_13 : decode b_Ma_load 13 = .ok (.ifCond .ne 4, 3) := by decide +kernel
theorem d_Ma_load_16 : decode b_Ma_load 16 = .ok (.return_, 1) := by decide +kernel
theorem d_Ma_load_17 : decode b_Ma_load 17 = .ok (.lconst 0, 1) := by decide +kernel
theorem d_Ma_load_18 : decode b_Ma_load 18 = .ok (.lstore 5, 2) := by decide +kernel
theorem d_Ma_load_20 : decode b_Ma_load 20 = .ok (.iload 4, 2) := by decide +kernel
theorem d_Ma_load_22 : decode b_Ma_load 22 = .ok (.iconst 1, 1) := by decide +kernel
theorem d_Ma_load_23 : decode b_Ma_load 23 = .ok (.isub, 1) := by decide +kernel
theorem d_Ma_load_24 : decode b_Ma_load 24 = .ok (.istore 7, 2) := by decide +kernel
theorem d_Ma_load_26 : decode b_Ma_load 26 = .ok (.iload 7, 2) := by decide +kernel
theorem d_Ma_load_28 : decode b_Ma_load 28 = .ok (.ifCond .lt 32, 3) := by decide +kernel
theorem d_Ma_load_31 : decode b_Ma_load 31 = .ok (.lload 5, 2) := by decide +kernel
theorem d_Ma_load_33 : decode b_Ma_load 33 = .ok (.bipush 8, 2) := by decide +kernel
theorem d_Ma_load_35 : decode b_Ma_load 35 = .ok (.lshl, 1) := by decide +kernel
theorem d_Ma_load_36 : decode b_Ma_load 36 = .ok (.aload_n 0, 1) := by decide +kernel
theorem d_Ma_load_37 : decode b_Ma_load 37 = .ok (.getfield 10, 3) := by decide +kernel
theorem d_Ma_load_40 : decode b_Ma_load 40 = .ok (.lload_n 2, 1) := by decide +kernel
theorem d_Ma_load_41 : decode b_Ma_load 41 = .ok (.l2i, 1) := by decide +kernel
theorem d_Ma_load_42 : decode b_Ma_load 42 = .ok (.iload 7, 2) := by decide +kernel
theorem d_Ma_load_44 : decode b_Ma_load 44 = .ok (.iadd, 1) := by decide +kernel
theorem d_Ma_load_45 : decode b_Ma_load 45 = .ok (.baload, 1) := by decide +kernel
theorem d_Ma_load_46 : decode b_Ma_load 46 = .ok (.sipush 255, 3) := by decide +kernel
theorem d_Ma_load_49 : decode b_Ma_load 49 = .ok (.iand, 1) := by decide +kernel
theorem d_Ma_load_50 : decode b_Ma_load 50 = .ok (.i2l, 1) := by decide +kernel
theorem d_Ma_load_51 : decode b_Ma_load 51 = .ok (.lor, 1) := by decide +kernel
theorem d_Ma_load_52 : decode b_Ma_load 52 = .ok (.lstore 5, 2) := by decide +kernel
theorem d_Ma_load_54 : decode b_Ma_load 54 = .ok (.iinc 7 (-1), 3) := by decide +kernel
theorem d_Ma_load_57 : decode b_Ma_load 57 = .ok (.goto (-31), 3) := by decide +kernel
theorem d_Ma_load_60 : decode b_Ma_load 60 = .ok (.iload_n 1, 1) := by decide +kernel
theorem d_Ma_load_61 : decode b_Ma_load 61 = .ok (.bipush 40, 2) := by decide +kernel
theorem d_Ma_load_63 : decode b_Ma_load 63 = .ok (.if_icmp .ne 14, 3) := by decide +kernel
theorem d_Ma_load_66 : decode b_Ma_load 66 = .ok (.aload_n 0, 1) := by decide +kernel
theorem d_Ma_load_67 : decode b_Ma_load 67 = .ok (.lload 5, 2) := by decide +kernel
theorem d_Ma_load_69 : decode b_Ma_load 69 = .ok (.l2i, 1) := by decide +kernel
theorem d_Ma_load_70 : decode b_Ma_load 70 = .ok (.i2l, 1) := by decide +kernel
theorem d_Ma_load_71 : decode b_Ma_load 71 = .ok (.invokevirtual 88, 3) := by decide +kernel
theorem d_Ma_load_74 : decode b_Ma_load 74 = .ok (.goto 23, 3) := by decide +kernel
theorem d_Ma_load_77 : decode b_Ma_load 77 = .ok (.aload_n 0, 1) := by decide +kernel
theorem d_Ma_load_78 : decode b_Ma_load 78 = .ok (.iload_n 1, 1) := by decide +kernel
theorem d_Ma_load_79 : decode b_Ma_load 79 = .ok (.bipush 44, 2) := by decide +kernel
theorem d_Ma_load_81 : decode b_Ma_load 81 = .ok (.if_icmp .ne 11, 3) := by decide +kernel
theorem d_Ma_load_84 : decode b_Ma_load 84 = .ok (.lload 5, 2) := by decide +kernel
theorem d_Ma_load_86 : decode b_Ma_load 86 = .ok (.l2i, 1) := by decide +kernel
theorem d_Ma_load_87 : decode b_Ma_load 87 = .ok (.i2b, 1) := by decide +kernel
theorem d_Ma_load_88 : decode b_Ma_load 88 = .ok (.i2l, 1) := by decide +kernel
theorem d_Ma_load_89 : decode b_Ma_load 89 = .ok (.goto 5, 3) := by decide +kernel
theorem d_Ma_load_92 : decode b_Ma_load 92 = .ok (.lload 5, 2) := by decide +kernel
theorem d_Ma_load_94 : decode b_Ma_load 94 = .ok (.invokevirtual 88, 3) := by decide +kernel
theorem d_Ma_load_97 : decode b_Ma_load 97 = .ok (.return_, 1) := by decide +kernel
theorem d_Ma_store_0 : decode b_Ma_store 0 = .ok (.iload_n 1, 1) := by decide +kernel
theorem d_Ma_store_1 : decode b_Ma_store 1 = .ok (.invokestatic 213, 3) := by decide +kernel
theorem d_Ma_store_4 : decode b_Ma_store 4 = .ok (.istore 6, 2) := by decide +kernel
theorem d_Ma_store_6 : decode b_Ma_store 6 = .ok (.aload_n 0, 1) := by decide +kernel
theorem d_Ma_store_7 : decode b_Ma_store 7 = .ok (.lload_n 2, 1) := by decide +kernel
theorem d_Ma_store_8 : decode b_Ma_store 8 = .ok (.iload 6, 2) := by decide +kernel
theorem d_Ma_store_10 : decode b_Ma_store 10 = .ok (.invokevirtual 216, 3) := by decide +kernel
theorem d_Ma_store_13 : decode b_Ma_store 13 = .ok (.ifCond .ne 4, 3) := by decide +kernel
theorem d_Ma_store_16 : decode b_Ma_store 16 = .ok (.return_, 1) := by decide +kernel
theorem d_Ma_store_17 : decode b_Ma_store 17 = .ok (.aload_n 0, 1) := by decide +kernel
theorem d_Ma_store_18 : decode b_Ma_store 18 = .ok (.iconst 1, 1) := by decide +kernel
theorem d_Ma_store_19 : decode b_Ma_store 19 = .ok (.putfield 35, 3) := by decide +kernel
theorem d_Ma_store_22 : decode b_Ma_store 22 = .ok (.iconst 0, 1) := by decide +kernel
theorem d_Ma_store_23 : decode b_Ma_store 23 = .ok (.istore 7, 2) := by decide +kernel
theorem d_Ma_store_25 : decode b_Ma_store 25 = .ok (.iload 7, 2) := by decide +kernel
theorem d_Ma_store_27 : decode b_Ma_store 27 = .ok (.iload 6, 2) := by decide +kernel
theorem d_Ma_store_29 : decode b_Ma_store 29 = .ok (.if_icmp .ge 29, 3) := by decide +kernel
theorem d_Ma_store_32 : decode b_Ma_store 32 = .ok (.aload_n 0, 1) := by decide +kernel
theorem d_Ma_store_33 : decode b_Ma_store 33 = .ok (.getfield 10, 3) := by decide +kernel
theorem d_Ma_store_36 : decode b_Ma_store 36 = .ok (.lload_n 2, 1) := by decide +kernel
theorem d_Ma_store_37 : decode b_Ma_store 37 = .ok (.l2i, 1) := by decide +kernel
theorem d_Ma_store_38 : decode b_Ma_store 38 = .ok (.iload 7, 2) := by decide +kernel
theorem d_Ma_store_40 : decode b_Ma_store 40 = .ok (.iadd, 1) := by decide +kernel
theorem d_Ma_store_41 : decode b_Ma_store 41 = .ok (.lload 4, 2) := by decide +kernel
theorem d_Ma_store_43 : decode b_Ma_store 43 = .ok (.bipush 8, 2) := by decide +kernel
theorem d_Ma_store_45 : decode b_Ma_store 45 = .ok (.iload 7, 2) := by decide +kernel
theorem d_Ma_store_47 : decode b_Ma_store 47 = .ok (.imul, 1) := by decide +kernel
theorem d_Ma_store_48 : decode b_Ma_store 48 = .ok (.lshr, 1) := by decide +kernel
theorem d_Ma_store_49 : decode b_Ma_store 49 = .ok (.l2i, 1) := by decide +kernel
theorem d_Ma_store_50 : decode b_Ma_store 50 = .ok (.i2b, 1) := by decide +kernel
theorem d_Ma_store_51 : decode b_Ma_store 51 = .ok (.bastore, 1) := by decide +kernel
theorem d_Ma_store_52 : decode b_Ma_store 52 = .ok (.iinc 7 1, 3) := by decide +kernel
theorem d_Ma_store_55 : decode b_Ma_store 55 = .ok (.goto (-30), 3) := by decide +kernel
theorem d_Ma_store_58 : decode b_Ma_store 58 = .ok (.return_, 1) := by decide +kernel
theorem m_171 : Cond.fieldLink R_Ma 74 "WaferRunner$Machine" "height" "I" ∈ lw_good := lw_in (List.mem_append_right _ (List.mem_of_getElem? (i := 171) (by decide +kernel))) (by decide +kernel)
theorem m_168 : Cond.fieldLink R_Ma 68 "WaferRunner$Machine" "reason" "I" ∈ lw_good := lw_in (List.mem_append_right _ (List.mem_of_getElem? (i := 168) (by decide +kernel))) (by decide +kernel)
theorem m_970 : Cond.methodLink R_Ma 142 y_Ma_pop ∈ lw_good := lw_in (List.mem_append_right _ (List.mem_of_getElem? (i := 970) (by decide +kernel))) (by decide +kernel)
theorem m_972 : Cond.instanceMethod y_Ma_pop ∈ lw_good := lw_in (List.mem_append_right _ (List.mem_of_getElem? (i := 972) (by decide +kernel))) (by decide +kernel)
theorem ms_Ma_pop : Cond.selects R_Ma y_Ma_pop y_Ma_pop ∈ lw_good := lw_in (by decide +kernel) (by decide +kernel)
theorem m_973 : Cond.code y_Ma_pop b_Ma_pop 1 (some .long) ∈ lw_good := lw_in (List.mem_append_right _ (List.mem_of_getElem? (i := 973) (by decide +kernel))) (by decide +kernel)
theorem m_952 : Cond.methodLink R_Ma 88 y_Ma_push ∈ lw_good := lw_in (List.mem_append_right _ (List.mem_of_getElem? (i := 952) (by decide +kernel))) (by decide +kernel)
theorem m_954 : Cond.instanceMethod y_Ma_push ∈ lw_good := lw_in (List.mem_append_right _ (List.mem_of_getElem? (i := 954) (by decide +kernel))) (by decide +kernel)
theorem ms_Ma_push : Cond.selects R_Ma y_Ma_push y_Ma_push ∈ lw_good := lw_in (by decide +kernel) (by decide +kernel)
theorem m_955 : Cond.code y_Ma_push b_Ma_push 3 none ∈ lw_good := lw_in (List.mem_append_right _ (List.mem_of_getElem? (i := 955) (by decide +kernel))) (by decide +kernel)
theorem m_166 : Cond.fieldLink R_Ma 45 "WaferRunner$Machine" "wafer" "LWaferRunner$Wafer;" ∈ lw_good := lw_in (List.mem_append_right _ (List.mem_of_getElem? (i := 166) (by decide +kernel))) (by decide +kernel)
theorem m_337 : Cond.fieldLink R_Ma 177 "WaferRunner$Wafer" "localCounts" "[I" ∈ lw_good := lw_in (List.mem_append_right _ (List.mem_of_getElem? (i := 337) (by decide +kernel))) (by decide +kernel)
theorem m_175 : Cond.fieldLink R_Ma 77 "WaferRunner$Machine" "depth" "I" ∈ lw_good := lw_in (List.mem_append_right _ (List.mem_of_getElem? (i := 175) (by decide +kernel))) (by decide +kernel)
theorem m_950 : Cond.methodLink R_Ma 80 y_Wa_parameterCountOf ∈ lw_good := lw_in (List.mem_append_right _ (List.mem_of_getElem? (i := 950) (by decide +kernel))) (by decide +kernel)
theorem m_169 : Cond.fieldLink R_Ma 97 "WaferRunner$Machine" "next" "I" ∈ lw_good := lw_in (List.mem_append_right _ (List.mem_of_getElem? (i := 169) (by decide +kernel))) (by decide +kernel)
theorem m_176 : Cond.fieldLink R_Ma 180 "WaferRunner$Machine" "variables" "I" ∈ lw_good := lw_in (List.mem_append_right _ (List.mem_of_getElem? (i := 176) (by decide +kernel))) (by decide +kernel)
theorem m_177 : Cond.fieldLink R_Ma 169 "WaferRunner$Machine" "values" "I" ∈ lw_good := lw_in (List.mem_append_right _ (List.mem_of_getElem? (i := 177) (by decide +kernel))) (by decide +kernel)
theorem m_334 : Cond.fieldLink R_Ma 183 "WaferRunner$Wafer" "starts" "[I" ∈ lw_good := lw_in (List.mem_append_right _ (List.mem_of_getElem? (i := 334) (by decide +kernel))) (by decide +kernel)
theorem m_965 : Cond.methodLink R_Ma 117 y_Wa_resultOf ∈ lw_good := lw_in (List.mem_append_right _ (List.mem_of_getElem? (i := 965) (by decide +kernel))) (by decide +kernel)
theorem m_966 : Cond.methodLink R_Ma 174 y_Ma_unwind ∈ lw_good := lw_in (List.mem_append_right _ (List.mem_of_getElem? (i := 966) (by decide +kernel))) (by decide +kernel)
theorem m_968 : Cond.instanceMethod y_Ma_unwind ∈ lw_good := lw_in (List.mem_append_right _ (List.mem_of_getElem? (i := 968) (by decide +kernel))) (by decide +kernel)
theorem ms_Ma_unwind : Cond.selects R_Ma y_Ma_unwind y_Ma_unwind ∈ lw_good := lw_in (by decide +kernel) (by decide +kernel)
theorem m_969 : Cond.code y_Ma_unwind b_Ma_unwind 5 none ∈ lw_good := lw_in (List.mem_append_right _ (List.mem_of_getElem? (i := 969) (by decide +kernel))) (by decide +kernel)
theorem m_167 : Cond.fieldLink R_Ma 53 "WaferRunner$Machine" "code" "LWaferRunner$Code;" ∈ lw_good := lw_in (List.mem_append_right _ (List.mem_of_getElem? (i := 167) (by decide +kernel))) (by decide +kernel)
theorem m_261 : Cond.fieldLink R_Ma 100 "WaferRunner$Code" "ops" "[I" ∈ lw_good := lw_in (List.mem_append_right _ (List.mem_of_getElem? (i := 261) (by decide +kernel))) (by decide +kernel)
theorem m_280 : Cond.fieldLink R_Ma 171 "WaferRunner$Code" "heights" "[I" ∈ lw_good := lw_in (List.mem_append_right _ (List.mem_of_getElem? (i := 280) (by decide +kernel))) (by decide +kernel)
theorem m_270 : Cond.fieldLink R_Ma 166 "WaferRunner$Code" "extras" "[I" ∈ lw_good := lw_in (List.mem_append_right _ (List.mem_of_getElem? (i := 270) (by decide +kernel))) (by decide +kernel)
theorem m_272 : Cond.fieldLink R_Ma 110 "WaferRunner$Code" "ends" "[I" ∈ lw_good := lw_in (List.mem_append_right _ (List.mem_of_getElem? (i := 272) (by decide +kernel))) (by decide +kernel)
theorem m_961 : Cond.methodLink R_Ma 107 y_Ma_leave ∈ lw_good := lw_in (List.mem_append_right _ (List.mem_of_getElem? (i := 961) (by decide +kernel))) (by decide +kernel)
theorem m_963 : Cond.instanceMethod y_Ma_leave ∈ lw_good := lw_in (List.mem_append_right _ (List.mem_of_getElem? (i := 963) (by decide +kernel))) (by decide +kernel)
theorem ms_Ma_leave : Cond.selects R_Ma y_Ma_leave y_Ma_leave ∈ lw_good := lw_in (by decide +kernel) (by decide +kernel)
theorem m_964 : Cond.code y_Ma_leave b_Ma_leave 2 none ∈ lw_good := lw_in (List.mem_append_right _ (List.mem_of_getElem? (i := 964) (by decide +kernel))) (by decide +kernel)
theorem m_160 : Cond.fieldLink R_Ma 58 "WaferRunner$Machine" "pages" "I" ∈ lw_good := lw_in (List.mem_append_right _ (List.mem_of_getElem? (i := 160) (by decide +kernel))) (by decide +kernel)
theorem m_351 : Cond.fieldLink R_Ma 204 "WaferRunner$Wafer" "pagesMost" "J" ∈ lw_good := lw_in (List.mem_append_right _ (List.mem_of_getElem? (i := 351) (by decide +kernel))) (by decide +kernel)
theorem m_1007 : Cond.constantLong R_Ma 207 2 ∈ lw_good := lw_in (List.mem_append_right _ (List.mem_of_getElem? (i := 1007) (by decide +kernel))) (by decide +kernel)
theorem m_988 : Cond.methodLink R_Ma 157 y_J_Math_min1 ∈ lw_good := lw_in (List.mem_append_right _ (List.mem_of_getElem? (i := 988) (by decide +kernel))) (by decide +kernel)
theorem m_989 : Cond.static y_J_Math_min1 ∈ lw_good := lw_in (List.mem_append_right _ (List.mem_of_getElem? (i := 989) (by decide +kernel))) (by decide +kernel)
theorem m_990 : Cond.code y_J_Math_min1 b_J_Math_min1 4 (some .long) ∈ lw_good := lw_in (List.mem_append_right _ (List.mem_of_getElem? (i := 990) (by decide +kernel))) (by decide +kernel)
theorem m_1008 : Cond.constantLong R_Ma 209 (-1) ∈ lw_good := lw_in (List.mem_append_right _ (List.mem_of_getElem? (i := 1008) (by decide +kernel))) (by decide +kernel)
theorem m_1019 : Cond.constantLong R_Ma 211 65536 ∈ lw_good := lw_in (List.mem_append_right _ (List.mem_of_getElem? (i := 1019) (by decide +kernel))) (by decide +kernel)
theorem m_1014 : Cond.methodLink R_Ma 213 y_Op_width ∈ lw_good := lw_in (List.mem_append_right _ (List.mem_of_getElem? (i := 1014) (by decide +kernel))) (by decide +kernel)
theorem m_1015 : Cond.methodLink R_Ma 216 y_Ma_isInside ∈ lw_good := lw_in (List.mem_append_right _ (List.mem_of_getElem? (i := 1015) (by decide +kernel))) (by decide +kernel)
theorem m_1017 : Cond.instanceMethod y_Ma_isInside ∈ lw_good := lw_in (List.mem_append_right _ (List.mem_of_getElem? (i := 1017) (by decide +kernel))) (by decide +kernel)
theorem ms_Ma_isInside : Cond.selects R_Ma y_Ma_isInside y_Ma_isInside ∈ lw_good := lw_in (by decide +kernel) (by decide +kernel)
theorem m_1018 : Cond.code y_Ma_isInside b_Ma_isInside 4 (some .boolean) ∈ lw_good := lw_in (List.mem_append_right _ (List.mem_of_getElem? (i := 1018) (by decide +kernel))) (by decide +kernel)
theorem m_159 : Cond.fieldLink R_Ma 35 "WaferRunner$Machine" "written" "Z" ∈ lw_good := lw_in (List.mem_append_right _ (List.mem_of_getElem? (i := 159) (by decide +kernel))) (by decide +kernel)
set_option maxHeartbeats 8000000 in
set_option maxRecDepth 100000 in
theorem k_Ma_push (l : Launch) (htr : l.stackTraces = false) (G : va_G) (cB cI cJ cZ cG : ClassId) (aMa : Nat) (aMa_bytes : Nat) (aMa_globals : Nat) (aWa : Nat) (aCo : Nat) (aMa_stack : Nat) (aMa_functions : Nat) (aMa_bases : Nat) (aMa_returns : Nat) (zAg : KAg) (zMa : KMa) (zAs : KAs) (zAf : KAf) (hzAg : KAg.Ok zAg) (hzMa : KMa.Ok zMa) (hzAs : KAs.Ok zAs) (hzAf : KAf.Ok zAf) (v_value : Int64) (R9 : Out Empty (KMa × KAs)) (hf : f_Ma_push zMa zAs v_value = R9) (hnb : R9 ≠ .bad) (sz : Nat) : MetX l y_Ma_push (wx y_Ma_push b_Ma_push 3 none) { frames := 0, cells := 0, slots := 0, locals := 0 } (XP G classes (xtys cB cI cJ cZ cG) xE [.ref aMa, .long v_value] [(aMa, .inr (6, [.ref aMa_bytes, .int (bI zAg.written), .int (iI zAg.pages), .ref aMa_globals, .int (iI zMa.steps), .ref aWa, .ref aCo, .int (iI zMa.reason), .int (iI zMa.next), .ref aMa_stack, .int (iI zAs.height), .ref aMa_functions, .ref aMa_bases, .ref aMa_returns, .int (iI zAf.depth), .int (iI zAf.variables), .int (iI zAf.values)])), (aMa_stack, .inl (cJ, 12096, .inr (.inl zAs.stack)))] sz) (XQ G classes (va_A [(aMa, .inr (6, [.ref aMa_bytes, .int (bI zAg.written), .int (iI zAg.pages), .ref aMa_globals, .int (iI zMa.steps), .ref aWa, .ref aCo, .int (iI zMa.reason), .int (iI zMa.next), .ref aMa_stack, .int (iI zAs.height), .ref aMa_functions, .ref aMa_bases, .ref aMa_returns, .int (iI zAf.depth), .int (iI zAf.variables), .int (iI zAf.values)])), (aMa_stack, .inl (cJ, 12096, .inr (.inl zAs.stack)))] sz) (fun o w1 => ozp R9 (fun x9 => (KMa.Ok x9.1 ∧ KAs.Ok x9.2) ∧ o = .returned none ∧ w1 = [(aMa, .inr (6, [.ref aMa_bytes, .int (bI zAg.written), .int (iI zAg.pages), .ref aMa_globals, .int (iI x9.1.steps), .ref aWa, .ref aCo, .int (iI x9.1.reason), .int (iI x9.1.next), .ref aMa_stack, .int (iI x9.2.height), .ref aMa_functions, .ref aMa_bases, .ref aMa_returns, .int (iI zAf.depth), .int (iI zAf.variables), .int (iI zAf.values)])), (aMa_stack, .inl (cJ, 12096, .inr (.inl x9.2.stack)))]) (fun _ => False))) 0 0 (va_A [(aMa, .inr (6, [.ref aMa_bytes, .int (bI zAg.written), .int (iI zAg.pages), .ref aMa_globals, .int (iI zMa.steps), .ref aWa, .ref aCo, .int (iI zMa.reason), .int (iI zMa.next), .ref aMa_stack, .int (iI zAs.height), .ref aMa_functions, .ref aMa_bases, .ref aMa_returns, .int (iI zAf.depth), .int (iI zAf.variables), .int (iI zAf.values)])), (aMa_stack, .inl (cJ, 12096, .inr (.inl zAs.stack)))] sz) := by
  refine ex_ofW (cc := b_Ma_push) (maxL := 3) (ret := none) (by decide) rfl ?_
  intro p e s m args below meth c s₁ B hml hno hv
  obtain ⟨rfl, hsz, hP, hK, hD0, hE⟩ := hv
  have hx := B.exec
  have hb := B.bytes
  have hr := B.returns
  have hts : ∀ w ∈ lw_good, w.before _ s = true := fun w h => atoms_spec (ws := wx y_Ma_push b_Ma_push 3 none) B.pre w (List.mem_cons_of_mem _ h)
  have hown : s.vm.findClass R_Ma = some m.cls := findClass_of_methodNamed B.named
  have hlocks := B.notSynchronized
  subst hsz
  have hNS := xx_nostat hP
  have hD := hD0.self (sz := s.heap.size)
  generalize hAe : va_A [(aMa, .inr (6, [.ref aMa_bytes, .int (bI zAg.written), .int (iI zAg.pages), .ref aMa_globals, .int (iI zMa.steps), .ref aWa, .ref aCo, .int (iI zMa.reason), .int (iI zMa.next), .ref aMa_stack, .int (iI zAs.height), .ref aMa_functions, .ref aMa_bases, .ref aMa_returns, .int (iI zAf.depth), .int (iI zAf.variables), .int (iI zAf.values)])), (aMa_stack, .inl (cJ, 12096, .inr (.inl zAs.stack)))] s.heap.size = A at hD hE hNS ⊢
  have hA : ∀ q : Nat, s.heap.size ≤ q → A q := fun q h => by rw [← hAe]; exact Or.inr h
  have hS : va_S A s.heap s.heap [] := va_S.rf
  have hl := lv_entry ([.ref aMa, .long v_value]) (n := 3) (Nat.le_of_ble_eq_true rfl)
  rw [lg_entry_eq]
  generalize (lg_sl ([.ref aMa, .long v_value]) ++ List.replicate (3 - (lg_sl ([.ref aMa, .long v_value])).length) Slot.unset).toArray = ls at hl ⊢
  have hl : lv_has ls 3 [(0, .ref aMa), (1, .long v_value)] := hl
  unfold f_Ma_push at hf
  refine lv_aload_n hx hb d_Ma_push_0 rfl (lv_at hl 0 rfl) ?_
  refine va_get (D := G) (ci := 6) (v := .int (iI zAs.height)) (C := R_Ma) (T := F_Ma) (N := 17) hx hb hts i_Ma hown hK hP 0 rfl rfl 10 (by decide) (hts _ m_171) (fun _ h9 => h9) rfl d_Ma_push_1 ?_
  refine lv_sipush (v := iI 12096) hx hb d_Ma_push_4 (by decide) ?_
  refine lv_icmp_lt (tgt := 17) hx hb d_Ma_push_7 (by decide) (fun c_1 => ?_) (fun c_1 => ?_)
  · have c_1 := ((zv_lt (iI_t hzAs.height) (iI_t (show R32 (12096) by decide)))).mp c_1
    replace hf := ifp c_1 hf
    refine lv_aload_n hx hb d_Ma_push_17 rfl (lv_at hl 0 rfl) ?_
    refine va_get (D := G) (ci := 6) (v := .ref aMa_stack) (C := R_Ma) (T := F_Ma) (N := 17) hx hb hts i_Ma hown hK hP 0 rfl rfl 9 (by decide) (hts _ m_170) (fun _ h9 => h9) rfl d_Ma_push_18 ?_
    refine lv_aload_n hx hb d_Ma_push_21 rfl (lv_at hl 0 rfl) ?_
    refine va_get (D := G) (ci := 6) (v := .int (iI zAs.height)) (C := R_Ma) (T := F_Ma) (N := 17) hx hb hts i_Ma hown hK hP 0 rfl rfl 10 (by decide) (hts _ m_171) (fun _ h9 => h9) rfl d_Ma_push_22 ?_
    refine lv_lload_n hx hb d_Ma_push_25 rfl (lv_at hl 1 rfl) ?_
    replace hf := grd hnb hf
    obtain ⟨g_2, hf⟩ := hf
    refine va_last hx hb hK hP hD hS 1 2 rfl rfl (vp_in_iI hzAs.height g_2) d_Ma_push_26 (fun H_1 locs_1 hP_1 hD_1 hS_1 => ?_)
    clear hS hD hP
    rw [iI_clamp hzAs.height] at hP_1 hD_1
    have hQ9 : (fun w9 => va_P G classes w9 H_1 ∧ va_D A w9) [(aMa, .inr (6, [.ref aMa_bytes, .int (bI zAg.written), .int (iI zAg.pages), .ref aMa_globals, .int (iI zMa.steps), .ref aWa, .ref aCo, .int (iI zMa.reason), .int (iI zMa.next), .ref aMa_stack, .int (iI zAs.height), .ref aMa_functions, .ref aMa_bases, .ref aMa_returns, .int (iI zAf.depth), .int (iI zAf.variables), .int (iI zAf.values)])), (aMa_stack, .inl (cJ, 12096, .inr (.inl (vp_updL zAs.stack zAs.height.toNat v_value))))] := ⟨hP_1, hD_1⟩
    clear hP_1 hD_1
    obtain ⟨hP_1, hD_1⟩ := hQ9
    refine lv_aload_n hx hb d_Ma_push_27 rfl (lv_at hl 0 rfl) ?_
    refine lv_dup hx hb d_Ma_push_28 rfl ?_
    refine va_get (D := G) (ci := 6) (v := .int (iI zAs.height)) (C := R_Ma) (T := F_Ma) (N := 17) hx hb hts i_Ma hown hK hP_1 0 rfl rfl 10 (by decide) (hts _ m_171) (fun _ h9 => h9) rfl d_Ma_push_29 ?_
    refine lv_iconst (v := iI 1) hx hb d_Ma_push_32 (by decide) ?_
    refine lv_iadd hx hb d_Ma_push_33 ?_
    refine lv_topi (fun x9 e9 => ?_)
    obtain rfl : x9 = iI (zAs.height + 1) := e9.trans (iI_add _ _)
    replace hf := grd hnb hf
    obtain ⟨g_3, hf⟩ := hf
    refine va_put (D := G) (ci := 6) (v := .int (iI (zAs.height + 1))) (ty := .int) (C := R_Ma) (T := F_Ma) (N := 17) hx hb hts i_Ma t_Ma t_Ma_ok n_Ma hown hK hP_1 hD_1 hS_1 0 rfl rfl 10 (by decide) (hts _ m_171) (fun _ h9 => h9) rfl (by decide +kernel) rfl rfl (Nat.le_of_ble_eq_true rfl) d_Ma_push_34 (fun H_2 locs_2 hP_2 hD_2 hS_2 => ?_)
    clear hS_1 hD_1 hP_1
    have hQ9 : (fun w9 => va_P G classes w9 H_2 ∧ va_D A w9) [(aMa, .inr (6, [.ref aMa_bytes, .int (bI zAg.written), .int (iI zAg.pages), .ref aMa_globals, .int (iI zMa.steps), .ref aWa, .ref aCo, .int (iI zMa.reason), .int (iI zMa.next), .ref aMa_stack, .int (iI (zAs.height + 1)), .ref aMa_functions, .ref aMa_bases, .ref aMa_returns, .int (iI zAf.depth), .int (iI zAf.variables), .int (iI zAf.values)])), (aMa_stack, .inl (cJ, 12096, .inr (.inl (vp_updL zAs.stack zAs.height.toNat v_value))))] := ⟨hP_2, hD_2⟩
    clear hP_2 hD_2
    obtain ⟨hP_2, hD_2⟩ := hQ9
    exact ex_W (fun _ h => ex_mq h) (W.vret hx hb hr (fun t ht hW => ⟨⟨_, ozr hf ⟨⟨hzMa, (KAs.Ok.mk g_3 : KAs.Ok (KAs.mk (vp_updL zAs.stack zAs.height.toNat v_value) (zAs.height + 1)))⟩, rfl, rfl⟩, by rw [ht]; exact hP_2, hD_2⟩, hS_2.F ht⟩) hS_2.2.2 d_Ma_push_37)
  · have c_1 := (fun q9 => c_1 (((zv_lt (iI_t hzAs.height) (iI_t (show R32 (12096) by decide)))).mpr q9))
    replace hf := ifn c_1 hf
    refine lv_aload_n hx hb d_Ma_push_10 rfl (lv_at hl 0 rfl) ?_
    refine lv_bipush (v := iI 7) hx hb d_Ma_push_11 (by decide) ?_
    refine va_put (D := G) (ci := 6) (v := .int (iI 7)) (ty := .int) (C := R_Ma) (T := F_Ma) (N := 17) hx hb hts i_Ma t_Ma t_Ma_ok n_Ma hown hK hP hD hS 0 rfl rfl 7 (by decide) (hts _ m_168) (fun _ h9 => h9) rfl (by decide +kernel) rfl rfl (Nat.le_of_ble_eq_true rfl) d_Ma_push_13 (fun H_3 locs_3 hP_3 hD_3 hS_3 => ?_)
    clear hS hD hP
    have hQ9 : (fun w9 => va_P G classes w9 H_3 ∧ va_D A w9) [(aMa, .inr (6, [.ref aMa_bytes, .int (bI zAg.written), .int (iI zAg.pages), .ref aMa_globals, .int (iI zMa.steps), .ref aWa, .ref aCo, .int (iI 7), .int (iI zMa.next), .ref aMa_stack, .int (iI zAs.height), .ref aMa_functions, .ref aMa_bases, .ref aMa_returns, .int (iI zAf.depth), .int (iI zAf.variables), .int (iI zAf.values)])), (aMa_stack, .inl (cJ, 12096, .inr (.inl zAs.stack)))] := ⟨hP_3, hD_3⟩
    clear hP_3 hD_3
    obtain ⟨hP_3, hD_3⟩ := hQ9
    exact ex_W (fun _ h => ex_mq h) (W.vret hx hb hr (fun t ht hW => ⟨⟨_, ozr hf ⟨⟨(KMa.Ok.mk hzMa.steps (show R32 (7) by decide) hzMa.next : KMa.Ok (KMa.mk zMa.steps 7 zMa.next)), hzAs⟩, rfl, rfl⟩, by rw [ht]; exact hP_3, hD_3⟩, hS_3.F ht⟩) hS_3.2.2 d_Ma_push_16)
set_option maxHeartbeats 8000000 in
set_option maxRecDepth 100000 in
theorem k_Ma_pop (l : Launch) (htr : l.stackTraces = false) (G : va_G) (cB cI cJ cZ cG : ClassId) (aMa : Nat) (aMa_bytes : Nat) (aMa_globals : Nat) (aWa : Nat) (aCo : Nat) (aMa_stack : Nat) (aMa_functions : Nat) (aMa_bases : Nat) (aMa_returns : Nat) (zAg : KAg) (zMa : KMa) (zAs : KAs) (zAf : KAf) (hzAg : KAg.Ok zAg) (hzMa : KMa.Ok zMa) (hzAs : KAs.Ok zAs) (hzAf : KAf.Ok zAf) (R9 : Out Empty (KAs × Int64)) (hf : f_Ma_pop zAs = R9) (hnb : R9 ≠ .bad) (sz : Nat) : MetX l y_Ma_pop (wx y_Ma_pop b_Ma_pop 1 (some .long)) { frames := 0, cells := 0, slots := 0, locals := 0 } (XP G classes (xtys cB cI cJ cZ cG) xE [.ref aMa] [(aMa, .inr (6, [.ref aMa_bytes, .int (bI zAg.written), .int (iI zAg.pages), .ref aMa_globals, .int (iI zMa.steps), .ref aWa, .ref aCo, .int (iI zMa.reason), .int (iI zMa.next), .ref aMa_stack, .int (iI zAs.height), .ref aMa_functions, .ref aMa_bases, .ref aMa_returns, .int (iI zAf.depth), .int (iI zAf.variables), .int (iI zAf.values)])), (aMa_stack, .inl (cJ, 12096, .inr (.inl zAs.stack)))] sz) (XQ G classes (va_A [(aMa, .inr (6, [.ref aMa_bytes, .int (bI zAg.written), .int (iI zAg.pages), .ref aMa_globals, .int (iI zMa.steps), .ref aWa, .ref aCo, .int (iI zMa.reason), .int (iI zMa.next), .ref aMa_stack, .int (iI zAs.height), .ref aMa_functions, .ref aMa_bases, .ref aMa_returns, .int (iI zAf.depth), .int (iI zAf.variables), .int (iI zAf.values)])), (aMa_stack, .inl (cJ, 12096, .inr (.inl zAs.stack)))] sz) (fun o w1 => ozp R9 (fun x9 => (KAs.Ok x9.1) ∧ o = .returned (some (.long x9.2)) ∧ w1 = [(aMa, .inr (6, [.ref aMa_bytes, .int (bI zAg.written), .int (iI zAg.pages), .ref aMa_globals, .int (iI zMa.steps), .ref aWa, .ref aCo, .int (iI zMa.reason), .int (iI zMa.next), .ref aMa_stack, .int (iI x9.1.height), .ref aMa_functions, .ref aMa_bases, .ref aMa_returns, .int (iI zAf.depth), .int (iI zAf.variables), .int (iI zAf.values)])), (aMa_stack, .inl (cJ, 12096, .inr (.inl x9.1.stack)))]) (fun _ => False))) 0 0 (va_A [(aMa, .inr (6, [.ref aMa_bytes, .int (bI zAg.written), .int (iI zAg.pages), .ref aMa_globals, .int (iI zMa.steps), .ref aWa, .ref aCo, .int (iI zMa.reason), .int (iI zMa.next), .ref aMa_stack, .int (iI zAs.height), .ref aMa_functions, .ref aMa_bases, .ref aMa_returns, .int (iI zAf.depth), .int (iI zAf.variables), .int (iI zAf.values)])), (aMa_stack, .inl (cJ, 12096, .inr (.inl zAs.stack)))] sz) := by
  refine ex_ofW (cc := b_Ma_pop) (maxL := 1) (ret := (some .long)) (by decide) rfl ?_
  intro p e s m args below meth c s₁ B hml hno hv
  obtain ⟨rfl, hsz, hP, hK, hD0, hE⟩ := hv
  have hx := B.exec
  have hb := B.bytes
  have hr := B.returns
  have hts : ∀ w ∈ lw_good, w.before _ s = true := fun w h => atoms_spec (ws := wx y_Ma_pop b_Ma_pop 1 (some .long)) B.pre w (List.mem_cons_of_mem _ h)
  have hown : s.vm.findClass R_Ma = some m.cls := findClass_of_methodNamed B.named
  have hlocks := B.notSynchronized
  subst hsz
  have hNS := xx_nostat hP
  have hD := hD0.self (sz := s.heap.size)
  generalize hAe : va_A [(aMa, .inr (6, [.ref aMa_bytes, .int (bI zAg.written), .int (iI zAg.pages), .ref aMa_globals, .int (iI zMa.steps), .ref aWa, .ref aCo, .int (iI zMa.reason), .int (iI zMa.next), .ref aMa_stack, .int (iI zAs.height), .ref aMa_functions, .ref aMa_bases, .ref aMa_returns, .int (iI zAf.depth), .int (iI zAf.variables), .int (iI zAf.values)])), (aMa_stack, .inl (cJ, 12096, .inr (.inl zAs.stack)))] s.heap.size = A at hD hE hNS ⊢
  have hA : ∀ q : Nat, s.heap.size ≤ q → A q := fun q h => by rw [← hAe]; exact Or.inr h
  have hS : va_S A s.heap s.heap [] := va_S.rf
  have hl := lv_entry ([.ref aMa]) (n := 1) (Nat.le_of_ble_eq_true rfl)
  rw [lg_entry_eq]
  generalize (lg_sl ([.ref aMa]) ++ List.replicate (1 - (lg_sl ([.ref aMa])).length) Slot.unset).toArray = ls at hl ⊢
  have hl : lv_has ls 1 [(0, .ref aMa)] := hl
  unfold f_Ma_pop at hf
  refine lv_aload_n hx hb d_Ma_pop_0 rfl (lv_at hl 0 rfl) ?_
  refine lv_dup hx hb d_Ma_pop_1 rfl ?_
  refine va_get (D := G) (ci := 6) (v := .int (iI zAs.height)) (C := R_Ma) (T := F_Ma) (N := 17) hx hb hts i_Ma hown hK hP 0 rfl rfl 10 (by decide) (hts _ m_171) (fun _ h9 => h9) rfl d_Ma_pop_2 ?_
  refine lv_iconst (v := iI 1) hx hb d_Ma_pop_5 (by decide) ?_
  refine lv_isub hx hb d_Ma_pop_6 ?_
  refine lv_topi (fun x9 e9 => ?_)
  obtain rfl : x9 = iI (zAs.height - 1) := e9.trans (iI_sub _ _)
  replace hf := grd hnb hf
  obtain ⟨g_1, hf⟩ := hf
  refine va_put (D := G) (ci := 6) (v := .int (iI (zAs.height - 1))) (ty := .int) (C := R_Ma) (T := F_Ma) (N := 17) hx hb hts i_Ma t_Ma t_Ma_ok n_Ma hown hK hP hD hS 0 rfl rfl 10 (by decide) (hts _ m_171) (fun _ h9 => h9) rfl (by decide +kernel) rfl rfl (Nat.le_of_ble_eq_true rfl) d_Ma_pop_7 (fun H_1 locs_1 hP_1 hD_1 hS_1 => ?_)
  clear hS hD hP
  have hQ9 : (fun w9 => va_P G classes w9 H_1 ∧ va_D A w9) [(aMa, .inr (6, [.ref aMa_bytes, .int (bI zAg.written), .int (iI zAg.pages), .ref aMa_globals, .int (iI zMa.steps), .ref aWa, .ref aCo, .int (iI zMa.reason), .int (iI zMa.next), .ref aMa_stack, .int (iI (zAs.height - 1)), .ref aMa_functions, .ref aMa_bases, .ref aMa_returns, .int (iI zAf.depth), .int (iI zAf.variables), .int (iI zAf.values)])), (aMa_stack, .inl (cJ, 12096, .inr (.inl zAs.stack)))] := ⟨hP_1, hD_1⟩
  clear hP_1 hD_1
  obtain ⟨hP_1, hD_1⟩ := hQ9
  refine lv_aload_n hx hb d_Ma_pop_10 rfl (lv_at hl 0 rfl) ?_
  refine va_get (D := G) (ci := 6) (v := .ref aMa_stack) (C := R_Ma) (T := F_Ma) (N := 17) hx hb hts i_Ma hown hK hP_1 0 rfl rfl 9 (by decide) (hts _ m_170) (fun _ h9 => h9) rfl d_Ma_pop_11 ?_
  refine lv_aload_n hx hb d_Ma_pop_14 rfl (lv_at hl 0 rfl) ?_
  refine va_get (D := G) (ci := 6) (v := .int (iI (zAs.height - 1))) (C := R_Ma) (T := F_Ma) (N := 17) hx hb hts i_Ma hown hK hP_1 0 rfl rfl 10 (by decide) (hts _ m_171) (fun _ h9 => h9) rfl d_Ma_pop_15 ?_
  replace hf := grd hnb hf
  obtain ⟨g_2, hf⟩ := hf
  refine va_lald hx hb hK hP_1 1 2 rfl rfl (vp_in_iI g_1 g_2) d_Ma_pop_18 ?_
  refine W.eq (g2 := F0 m 19 ls [.long (zAs.stack (zAs.height - 1).toNat)]) (by rw [iI_clamp g_1] <;> rfl) ?_
  exact ex_W (fun _ h => ex_mq h) (W.lret (v := zAs.stack (zAs.height - 1).toNat) hx hb hr (fun t ht hW => ⟨⟨_, ozr hf ⟨(KAs.Ok.mk g_1 : KAs.Ok (KAs.mk zAs.stack (zAs.height - 1))), rfl, rfl⟩, by rw [ht]; exact hP_1, hD_1⟩, hS_1.F ht⟩) hS_1.2.2 d_Ma_pop_19)
set_option maxRecDepth 100000 in
abbrev pq_Ma_select (cJ : ClassId) (aMa : Nat) (aMa_bytes : Nat) (aMa_globals : Nat) (aWa : Nat) (aCo : Nat) (aMa_stack : Nat) (aMa_functions : Nat) (aMa_bases : Nat) (aMa_returns : Nat) (zAg : KAg) (zAf : KAf) (R9 : Out Empty (KMa × KAs)) := (fun (o : Outcome) (w1 : va_W) => ozp R9 (fun x9 => (KMa.Ok x9.1 ∧ KAs.Ok x9.2) ∧ o = .returned none ∧ w1 = [(aMa, .inr (6, [.ref aMa_bytes, .int (bI zAg.written), .int (iI zAg.pages), .ref aMa_globals, .int (iI x9.1.steps), .ref aWa, .ref aCo, .int (iI x9.1.reason), .int (iI x9.1.next), .ref aMa_stack, .int (iI x9.2.height), .ref aMa_functions, .ref aMa_bases, .ref aMa_returns, .int (iI zAf.depth), .int (iI zAf.variables), .int (iI zAf.values)])), (aMa_stack, .inl (cJ, 12096, .inr (.inl x9.2.stack)))]) (fun _ => False))
set_option maxHeartbeats 8000000 in
set_option maxRecDepth 100000 in
theorem k_Ma_select (l : Launch) (htr : l.stackTraces = false) (G : va_G) (cB cI cJ cZ cG : ClassId) (aMa : Nat) (aMa_bytes : Nat) (aMa_globals : Nat) (aWa : Nat) (aCo : Nat) (aMa_stack : Nat) (aMa_functions : Nat) (aMa_bases : Nat) (aMa_returns : Nat) (zAg : KAg) (zMa : KMa) (zAs : KAs) (zAf : KAf) (hzAg : KAg.Ok zAg) (hzMa : KMa.Ok zMa) (hzAs : KAs.Ok zAs) (hzAf : KAf.Ok zAf) (R9 : Out Empty (KMa × KAs)) (hf : f_Ma_select zMa zAs = R9) (hnb : R9 ≠ .bad) (sz : Nat) : MetX l y_Ma_select (wx y_Ma_select b_Ma_select 7 none) { frames := 1, cells := 0, slots := 0, locals := 22 } (XP G classes (xtys cB cI cJ cZ cG) xE [.ref aMa] [(aMa, .inr (6, [.ref aMa_bytes, .int (bI zAg.written), .int (iI zAg.pages), .ref aMa_globals, .int (iI zMa.steps), .ref aWa, .ref aCo, .int (iI zMa.reason), .int (iI zMa.next), .ref aMa_stack, .int (iI zAs.height), .ref aMa_functions, .ref aMa_bases, .ref aMa_returns, .int (iI zAf.depth), .int (iI zAf.variables), .int (iI zAf.values)])), (aMa_stack, .inl (cJ, 12096, .inr (.inl zAs.stack)))] sz) (XQ G classes (va_A [(aMa, .inr (6, [.ref aMa_bytes, .int (bI zAg.written), .int (iI zAg.pages), .ref aMa_globals, .int (iI zMa.steps), .ref aWa, .ref aCo, .int (iI zMa.reason), .int (iI zMa.next), .ref aMa_stack, .int (iI zAs.height), .ref aMa_functions, .ref aMa_bases, .ref aMa_returns, .int (iI zAf.depth), .int (iI zAf.variables), .int (iI zAf.values)])), (aMa_stack, .inl (cJ, 12096, .inr (.inl zAs.stack)))] sz) (fun o w1 => ozp R9 (fun x9 => (KMa.Ok x9.1 ∧ KAs.Ok x9.2) ∧ o = .returned none ∧ w1 = [(aMa, .inr (6, [.ref aMa_bytes, .int (bI zAg.written), .int (iI zAg.pages), .ref aMa_globals, .int (iI x9.1.steps), .ref aWa, .ref aCo, .int (iI x9.1.reason), .int (iI x9.1.next), .ref aMa_stack, .int (iI x9.2.height), .ref aMa_functions, .ref aMa_bases, .ref aMa_returns, .int (iI zAf.depth), .int (iI zAf.variables), .int (iI zAf.values)])), (aMa_stack, .inl (cJ, 12096, .inr (.inl x9.2.stack)))]) (fun _ => False))) 0 0 (va_A [(aMa, .inr (6, [.ref aMa_bytes, .int (bI zAg.written), .int (iI zAg.pages), .ref aMa_globals, .int (iI zMa.steps), .ref aWa, .ref aCo, .int (iI zMa.reason), .int (iI zMa.next), .ref aMa_stack, .int (iI zAs.height), .ref aMa_functions, .ref aMa_bases, .ref aMa_returns, .int (iI zAf.depth), .int (iI zAf.variables), .int (iI zAf.values)])), (aMa_stack, .inl (cJ, 12096, .inr (.inl zAs.stack)))] sz) := by
  refine ex_ofW (cc := b_Ma_select) (maxL := 7) (ret := none) (by decide) rfl ?_
  intro p e s m args below meth c s₁ B hml hno hv
  obtain ⟨rfl, hsz, hP, hK, hD0, hE⟩ := hv
  have hx := B.exec
  have hb := B.bytes
  have hr := B.returns
  have hts : ∀ w ∈ lw_good, w.before _ s = true := fun w h => atoms_spec (ws := wx y_Ma_select b_Ma_select 7 none) B.pre w (List.mem_cons_of_mem _ h)
  have hown : s.vm.findClass R_Ma = some m.cls := findClass_of_methodNamed B.named
  have hlocks := B.notSynchronized
  subst hsz
  have hNS := xx_nostat hP
  have hD := hD0.self (sz := s.heap.size)
  generalize hAe : va_A [(aMa, .inr (6, [.ref aMa_bytes, .int (bI zAg.written), .int (iI zAg.pages), .ref aMa_globals, .int (iI zMa.steps), .ref aWa, .ref aCo, .int (iI zMa.reason), .int (iI zMa.next), .ref aMa_stack, .int (iI zAs.height), .ref aMa_functions, .ref aMa_bases, .ref aMa_returns, .int (iI zAf.depth), .int (iI zAf.variables), .int (iI zAf.values)])), (aMa_stack, .inl (cJ, 12096, .inr (.inl zAs.stack)))] s.heap.size = A at hD hE hNS ⊢
  have hA : ∀ q : Nat, s.heap.size ≤ q → A q := fun q h => by rw [← hAe]; exact Or.inr h
  have hS : va_S A s.heap s.heap [] := va_S.rf
  have hl := lv_entry ([.ref aMa]) (n := 7) (Nat.le_of_ble_eq_true rfl)
  rw [lg_entry_eq]
  generalize (lg_sl ([.ref aMa]) ++ List.replicate (7 - (lg_sl ([.ref aMa])).length) Slot.unset).toArray = ls at hl ⊢
  have hl : lv_has ls 7 [(0, .ref aMa)] := hl
  unfold f_Ma_select at hf
  refine lv_aload_n hx hb d_Ma_select_0 rfl (lv_at hl 0 rfl) ?_
  replace hf := obE hnb hf
  obtain ⟨x_1, e_2, hf⟩ := hf
  refine xx_callV (wc := [(aMa, .inr (6, [.ref aMa_bytes, .int (bI zAg.written), .int (iI zAg.pages), .ref aMa_globals, .int (iI zMa.steps), .ref aWa, .ref aCo, .int (iI zMa.reason), .int (iI zMa.next), .ref aMa_stack, .int (iI zAs.height), .ref aMa_functions, .ref aMa_bases, .ref aMa_returns, .int (iI zAf.depth), .int (iI zAf.variables), .int (iI zAf.values)])), (aMa_stack, .inl (cJ, 12096, .inr (.inl zAs.stack)))]) (wr := []) (As := []) (rest := []) ⟨hx, hb, hml, hown, hts⟩ xE_st hK hE hA (k_Ma_pop l htr G cB cI cJ cZ cG aMa aMa_bytes aMa_globals aWa aCo aMa_stack aMa_functions aMa_bases aMa_returns zAg zMa zAs zAf hzAg hzMa hzAs hzAf (.ret x_1) e_2 ret_nb _) (xw_V 0 hts m_970 m_972 ms_Ma_pop m_7 m_973 (by decide +kernel) ⟨(Nat.le_of_ble_eq_true rfl), (Nat.le_of_ble_eq_true rfl)⟩) hP hD hS [0, 1] [] rfl rfl (by decide +kernel) (by decide +kernel) (by decide +kernel) 0 6 rfl rfl rfl rfl hl.1 rfl (Nat.le_of_ble_eq_true rfl) d_Ma_select_1 ⟨(Nat.le_of_ble_eq_true rfl), (Nat.le_of_ble_eq_true rfl)⟩ (fun v9 w9 H_1 locs_1 hp hP_1 hD_1 hS_1 => ?_) (fun x9 w9 H9 l9 hp _ _ _ => absurd hp (fun q9 => by obtain ⟨-, ho, -⟩ := q9; cases ho))
  clear hS hD hP
  obtain ⟨hx_1, ho, rfl⟩ := hp
  cases ho
  have hQ9 : (fun w9 => va_P G classes w9 H_1 ∧ va_D A w9) [(aMa, .inr (6, [.ref aMa_bytes, .int (bI zAg.written), .int (iI zAg.pages), .ref aMa_globals, .int (iI zMa.steps), .ref aWa, .ref aCo, .int (iI zMa.reason), .int (iI zMa.next), .ref aMa_stack, .int (iI x_1.1.height), .ref aMa_functions, .ref aMa_bases, .ref aMa_returns, .int (iI zAf.depth), .int (iI zAf.variables), .int (iI zAf.values)])), (aMa_stack, .inl (cJ, 12096, .inr (.inl x_1.1.stack)))] := ⟨hP_1, hD_1⟩
  clear hP_1 hD_1
  obtain ⟨hP_1, hD_1⟩ := hQ9
  refine lv_lstore_n (lv' := [(1, .long x_1.2), (0, .ref aMa)]) hx hb d_Ma_select_4 rfl hl (by decide) rfl (fun ls hl => ?_)
  refine lv_aload_n hx hb d_Ma_select_5 rfl (lv_at hl 1 rfl) ?_
  replace hf := obE hnb hf
  obtain ⟨x_3, e_4, hf⟩ := hf
  refine xx_callV (wc := [(aMa, .inr (6, [.ref aMa_bytes, .int (bI zAg.written), .int (iI zAg.pages), .ref aMa_globals, .int (iI zMa.steps), .ref aWa, .ref aCo, .int (iI zMa.reason), .int (iI zMa.next), .ref aMa_stack, .int (iI x_1.1.height), .ref aMa_functions, .ref aMa_bases, .ref aMa_returns, .int (iI zAf.depth), .int (iI zAf.variables), .int (iI zAf.values)])), (aMa_stack, .inl (cJ, 12096, .inr (.inl x_1.1.stack)))]) (wr := []) (As := []) (rest := []) ⟨hx, hb, hml, hown, hts⟩ xE_st hK hE hA (k_Ma_pop l htr G cB cI cJ cZ cG aMa aMa_bytes aMa_globals aWa aCo aMa_stack aMa_functions aMa_bases aMa_returns zAg zMa x_1.1 zAf hzAg hzMa hx_1 hzAf (.ret x_3) e_4 ret_nb _) (xw_V 0 hts m_970 m_972 ms_Ma_pop m_7 m_973 (by decide +kernel) ⟨(Nat.le_of_ble_eq_true rfl), (Nat.le_of_ble_eq_true rfl)⟩) hP_1 hD_1 hS_1 [0, 1] [] rfl rfl (by decide +kernel) (by decide +kernel) (by decide +kernel) 0 6 rfl rfl rfl rfl hl.1 rfl (Nat.le_of_ble_eq_true rfl) d_Ma_select_6 ⟨(Nat.le_of_ble_eq_true rfl), (Nat.le_of_ble_eq_true rfl)⟩ (fun v9 w9 H_2 locs_2 hp hP_2 hD_2 hS_2 => ?_) (fun x9 w9 H9 l9 hp _ _ _ => absurd hp (fun q9 => by obtain ⟨-, ho, -⟩ := q9; cases ho))
  clear hS_1 hD_1 hP_1
  obtain ⟨hx_3, ho, rfl⟩ := hp
  cases ho
  have hQ9 : (fun w9 => va_P G classes w9 H_2 ∧ va_D A w9) [(aMa, .inr (6, [.ref aMa_bytes, .int (bI zAg.written), .int (iI zAg.pages), .ref aMa_globals, .int (iI zMa.steps), .ref aWa, .ref aCo, .int (iI zMa.reason), .int (iI zMa.next), .ref aMa_stack, .int (iI x_3.1.height), .ref aMa_functions, .ref aMa_bases, .ref aMa_returns, .int (iI zAf.depth), .int (iI zAf.variables), .int (iI zAf.values)])), (aMa_stack, .inl (cJ, 12096, .inr (.inl x_3.1.stack)))] := ⟨hP_2, hD_2⟩
  clear hP_2 hD_2
  obtain ⟨hP_2, hD_2⟩ := hQ9
  refine lv_lstore_n (lv' := [(3, .long x_3.2), (1, .long x_1.2), (0, .ref aMa)]) hx hb d_Ma_select_9 rfl hl (by decide) rfl (fun ls hl => ?_)
  refine lv_aload_n hx hb d_Ma_select_10 rfl (lv_at hl 2 rfl) ?_
  replace hf := obE hnb hf
  obtain ⟨x_5, e_6, hf⟩ := hf
  refine xx_callV (wc := [(aMa, .inr (6, [.ref aMa_bytes, .int (bI zAg.written), .int (iI zAg.pages), .ref aMa_globals, .int (iI zMa.steps), .ref aWa, .ref aCo, .int (iI zMa.reason), .int (iI zMa.next), .ref aMa_stack, .int (iI x_3.1.height), .ref aMa_functions, .ref aMa_bases, .ref aMa_returns, .int (iI zAf.depth), .int (iI zAf.variables), .int (iI zAf.values)])), (aMa_stack, .inl (cJ, 12096, .inr (.inl x_3.1.stack)))]) (wr := []) (As := []) (rest := []) ⟨hx, hb, hml, hown, hts⟩ xE_st hK hE hA (k_Ma_pop l htr G cB cI cJ cZ cG aMa aMa_bytes aMa_globals aWa aCo aMa_stack aMa_functions aMa_bases aMa_returns zAg zMa x_3.1 zAf hzAg hzMa hx_3 hzAf (.ret x_5) e_6 ret_nb _) (xw_V 0 hts m_970 m_972 ms_Ma_pop m_7 m_973 (by decide +kernel) ⟨(Nat.le_of_ble_eq_true rfl), (Nat.le_of_ble_eq_true rfl)⟩) hP_2 hD_2 hS_2 [0, 1] [] rfl rfl (by decide +kernel) (by decide +kernel) (by decide +kernel) 0 6 rfl rfl rfl rfl hl.1 rfl (Nat.le_of_ble_eq_true rfl) d_Ma_select_11 ⟨(Nat.le_of_ble_eq_true rfl), (Nat.le_of_ble_eq_true rfl)⟩ (fun v9 w9 H_3 locs_3 hp hP_3 hD_3 hS_3 => ?_) (fun x9 w9 H9 l9 hp _ _ _ => absurd hp (fun q9 => by obtain ⟨-, ho, -⟩ := q9; cases ho))
  clear hS_2 hD_2 hP_2
  obtain ⟨hx_5, ho, rfl⟩ := hp
  cases ho
  have hQ9 : (fun w9 => va_P G classes w9 H_3 ∧ va_D A w9) [(aMa, .inr (6, [.ref aMa_bytes, .int (bI zAg.written), .int (iI zAg.pages), .ref aMa_globals, .int (iI zMa.steps), .ref aWa, .ref aCo, .int (iI zMa.reason), .int (iI zMa.next), .ref aMa_stack, .int (iI x_5.1.height), .ref aMa_functions, .ref aMa_bases, .ref aMa_returns, .int (iI zAf.depth), .int (iI zAf.variables), .int (iI zAf.values)])), (aMa_stack, .inl (cJ, 12096, .inr (.inl x_5.1.stack)))] := ⟨hP_3, hD_3⟩
  clear hP_3 hD_3
  obtain ⟨hP_3, hD_3⟩ := hQ9
  refine lv_lstore (lv' := [(5, .long x_5.2), (3, .long x_3.2), (1, .long x_1.2), (0, .ref aMa)]) hx hb d_Ma_select_14 hl (by decide) rfl (fun ls hl => ?_)
  refine lv_aload_n hx hb d_Ma_select_16 rfl (lv_at hl 3 rfl) ?_
  refine lv_lload_n hx hb d_Ma_select_17 rfl (lv_at hl 2 rfl) ?_
  refine lv_lconst (v := 0) hx hb d_Ma_select_18 (by decide) ?_
  refine W.lcmp hx hb d_Ma_select_19 ?_
  refine jpE hf (fun K_8 hK_8 hf9 => ?_)
  replace hf := hf9
  clear hf9
  have hJK_8 : ∀ (y_7 : Int64), True → K_8 y_7 = R9 → ∀ (H_3 : Heap) (locs_3 : List Loc), (fun w9 => va_P G classes w9 H_3 → va_D A w9 → va_S A s.heap H_3 locs_3 → ∀ (ls : Array Slot), lv_has ls 7 [(0, .ref aMa), (1, .long x_1.2), (3, .long x_3.2), (5, .long x_5.2)] → W p l e (headSpec (wx y_Ma_select b_Ma_select 7 none) { frames := 1, cells := 0, slots := 0, locals := 22 }).room s m ([.ref aMa] : List Value).toArray below meth c H_3 locs_3 0 0 (MX below (XQ G classes A (pq_Ma_select cJ aMa aMa_bytes aMa_globals aWa aCo aMa_stack aMa_functions aMa_bases aMa_returns zAg zAf R9)) ([.ref aMa] : List Value).toArray s 0 0 A) (F0 m 29 ls [.long y_7, .ref aMa])) [(aMa, .inr (6, [.ref aMa_bytes, .int (bI zAg.written), .int (iI zAg.pages), .ref aMa_globals, .int (iI zMa.steps), .ref aWa, .ref aCo, .int (iI zMa.reason), .int (iI zMa.next), .ref aMa_stack, .int (iI x_5.1.height), .ref aMa_functions, .ref aMa_bases, .ref aMa_returns, .int (iI zAf.depth), .int (iI zAf.variables), .int (iI zAf.values)])), (aMa_stack, .inl (cJ, 12096, .inr (.inl x_5.1.stack)))] := by
    intro y_7 hy_7 hf H_5 locs_5 hP_5 hD_5 hS_5 ls hl
    clear hS_3 hD_3 hP_3
    replace hf := (congrFun hK_8 y_7).symm.trans hf
    clear hK_8
    replace hf := obE hnb hf
    obtain ⟨x_9, e_10, hf⟩ := hf
    refine xx_callV (wc := [(aMa, .inr (6, [.ref aMa_bytes, .int (bI zAg.written), .int (iI zAg.pages), .ref aMa_globals, .int (iI zMa.steps), .ref aWa, .ref aCo, .int (iI zMa.reason), .int (iI zMa.next), .ref aMa_stack, .int (iI x_5.1.height), .ref aMa_functions, .ref aMa_bases, .ref aMa_returns, .int (iI zAf.depth), .int (iI zAf.variables), .int (iI zAf.values)])), (aMa_stack, .inl (cJ, 12096, .inr (.inl x_5.1.stack)))]) (wr := []) (As := [.long y_7]) (rest := []) ⟨hx, hb, hml, hown, hts⟩ xE_st hK hE hA (k_Ma_push l htr G cB cI cJ cZ cG aMa aMa_bytes aMa_globals aWa aCo aMa_stack aMa_functions aMa_bases aMa_returns zAg zMa x_5.1 zAf hzAg hzMa hx_5 hzAf y_7 (.ret x_9) e_10 ret_nb _) (xw_V 1 hts m_952 m_954 ms_Ma_push m_7 m_955 (by decide +kernel) ⟨(Nat.le_of_ble_eq_true rfl), (Nat.le_of_ble_eq_true rfl)⟩) hP_5 hD_5 hS_5 [0, 1] [] rfl rfl (by decide +kernel) (by decide +kernel) (by decide +kernel) 0 6 rfl rfl rfl rfl hl.1 rfl (Nat.le_of_ble_eq_true rfl) d_Ma_select_29 ⟨(Nat.le_of_ble_eq_true rfl), (Nat.le_of_ble_eq_true rfl)⟩ (fun v9 w9 H_6 locs_6 hp hP_6 hD_6 hS_6 => ?_) (fun x9 w9 H9 l9 hp _ _ _ => absurd hp (fun q9 => by obtain ⟨-, ho, -⟩ := q9; cases ho))
    clear hS_5 hD_5 hP_5
    obtain ⟨hx_9, ho, rfl⟩ := hp
    cases ho
    have hQ9 : (fun w9 => va_P G classes w9 H_6 ∧ va_D A w9) [(aMa, .inr (6, [.ref aMa_bytes, .int (bI zAg.written), .int (iI zAg.pages), .ref aMa_globals, .int (iI x_9.1.steps), .ref aWa, .ref aCo, .int (iI x_9.1.reason), .int (iI x_9.1.next), .ref aMa_stack, .int (iI x_9.2.height), .ref aMa_functions, .ref aMa_bases, .ref aMa_returns, .int (iI zAf.depth), .int (iI zAf.variables), .int (iI zAf.values)])), (aMa_stack, .inl (cJ, 12096, .inr (.inl x_9.2.stack)))] := ⟨hP_6, hD_6⟩
    clear hP_6 hD_6
    obtain ⟨hP_6, hD_6⟩ := hQ9
    exact ex_W (fun _ h => ex_mq h) (W.vret hx hb hr (fun t ht hW => ⟨⟨_, ozr hf ⟨⟨hx_9.1, hx_9.2⟩, rfl, rfl⟩, by rw [ht]; exact hP_6, hD_6⟩, hS_6.F ht⟩) hS_6.2.2 d_Ma_select_32)
  clear hK_8
  refine lv_if_eq (tgt := 28) hx hb d_Ma_select_20 (by decide) (fun c_11 => ?_) (fun c_11 => ?_)
  · have c_11 := (lc_eq).mp c_11
    replace hf := ifp c_11 hf
    refine lv_lload_n hx hb d_Ma_select_28 rfl (lv_at hl 1 rfl) ?_
    exact hJK_8 x_3.2 trivial hf _ _ hP_3 hD_3 hS_3 _ (lv_sub hl [3, 2, 1, 0] rfl)
  · have c_11 := (fun q9 => c_11 ((lc_eq).mpr q9))
    replace hf := ifn c_11 hf
    refine lv_lload hx hb d_Ma_select_23 (lv_at hl 0 rfl) ?_
    refine lv_goto (tgt := 29) hx hb d_Ma_select_25 (by decide) ?_
    exact hJK_8 x_5.2 trivial hf _ _ hP_3 hD_3 hS_3 _ (lv_sub hl [3, 2, 1, 0] rfl)
set_option maxRecDepth 100000 in
abbrev pq_Ma_unwind (cJ : ClassId) (aMa : Nat) (aMa_bytes : Nat) (aMa_globals : Nat) (aWa : Nat) (aCo : Nat) (aMa_stack : Nat) (aMa_functions : Nat) (aMa_bases : Nat) (aMa_returns : Nat) (zAg : KAg) (zAf : KAf) (R9 : Out Empty (KMa × KAs)) := (fun (o : Outcome) (w1 : va_W) => ozp R9 (fun x9 => (KMa.Ok x9.1 ∧ KAs.Ok x9.2) ∧ o = .returned none ∧ w1 = [(aMa, .inr (6, [.ref aMa_bytes, .int (bI zAg.written), .int (iI zAg.pages), .ref aMa_globals, .int (iI x9.1.steps), .ref aWa, .ref aCo, .int (iI x9.1.reason), .int (iI x9.1.next), .ref aMa_stack, .int (iI x9.2.height), .ref aMa_functions, .ref aMa_bases, .ref aMa_returns, .int (iI zAf.depth), .int (iI zAf.variables), .int (iI zAf.values)])), (aMa_stack, .inl (cJ, 12096, .inr (.inl x9.2.stack)))]) (fun _ => False))
set_option maxHeartbeats 8000000 in
set_option maxRecDepth 100000 in
theorem k_Ma_unwind (l : Launch) (htr : l.stackTraces = false) (G : va_G) (cB cI cJ cZ cG : ClassId) (aMa : Nat) (aMa_bytes : Nat) (aMa_globals : Nat) (aWa : Nat) (aCo : Nat) (aMa_stack : Nat) (aMa_functions : Nat) (aMa_bases : Nat) (aMa_returns : Nat) (zAg : KAg) (zMa : KMa) (zAs : KAs) (zAf : KAf) (hzAg : KAg.Ok zAg) (hzMa : KMa.Ok zMa) (hzAs : KAs.Ok zAs) (hzAf : KAf.Ok zAf) (v_to : Int) (v_type : Int) (hv_to : R32 v_to) (hv_type : R32 v_type) (R9 : Out Empty (KMa × KAs)) (hf : f_Ma_unwind zMa zAs v_to v_type = R9) (hnb : R9 ≠ .bad) (sz : Nat) : MetX l y_Ma_unwind (wx y_Ma_unwind b_Ma_unwind 5 none) { frames := 1, cells := 0, slots := 0, locals := 22 } (XP G classes (xtys cB cI cJ cZ cG) xE [.ref aMa, .int (iI v_to), .int (iI v_type)] [(aMa, .inr (6, [.ref aMa_bytes, .int (bI zAg.written), .int (iI zAg.pages), .ref aMa_globals, .int (iI zMa.steps), .ref aWa, .ref aCo, .int (iI zMa.reason), .int (iI zMa.next), .ref aMa_stack, .int (iI zAs.height), .ref aMa_functions, .ref aMa_bases, .ref aMa_returns, .int (iI zAf.depth), .int (iI zAf.variables), .int (iI zAf.values)])), (aMa_stack, .inl (cJ, 12096, .inr (.inl zAs.stack)))] sz) (XQ G classes (va_A [(aMa, .inr (6, [.ref aMa_bytes, .int (bI zAg.written), .int (iI zAg.pages), .ref aMa_globals, .int (iI zMa.steps), .ref aWa, .ref aCo, .int (iI zMa.reason), .int (iI zMa.next), .ref aMa_stack, .int (iI zAs.height), .ref aMa_functions, .ref aMa_bases, .ref aMa_returns, .int (iI zAf.depth), .int (iI zAf.variables), .int (iI zAf.values)])), (aMa_stack, .inl (cJ, 12096, .inr (.inl zAs.stack)))] sz) (fun o w1 => ozp R9 (fun x9 => (KMa.Ok x9.1 ∧ KAs.Ok x9.2) ∧ o = .returned none ∧ w1 = [(aMa, .inr (6, [.ref aMa_bytes, .int (bI zAg.written), .int (iI zAg.pages), .ref aMa_globals, .int (iI x9.1.steps), .ref aWa, .ref aCo, .int (iI x9.1.reason), .int (iI x9.1.next), .ref aMa_stack, .int (iI x9.2.height), .ref aMa_functions, .ref aMa_bases, .ref aMa_returns, .int (iI zAf.depth), .int (iI zAf.variables), .int (iI zAf.values)])), (aMa_stack, .inl (cJ, 12096, .inr (.inl x9.2.stack)))]) (fun _ => False))) 0 0 (va_A [(aMa, .inr (6, [.ref aMa_bytes, .int (bI zAg.written), .int (iI zAg.pages), .ref aMa_globals, .int (iI zMa.steps), .ref aWa, .ref aCo, .int (iI zMa.reason), .int (iI zMa.next), .ref aMa_stack, .int (iI zAs.height), .ref aMa_functions, .ref aMa_bases, .ref aMa_returns, .int (iI zAf.depth), .int (iI zAf.variables), .int (iI zAf.values)])), (aMa_stack, .inl (cJ, 12096, .inr (.inl zAs.stack)))] sz) := by
  refine ex_ofW (cc := b_Ma_unwind) (maxL := 5) (ret := none) (by decide) rfl ?_
  intro p e s m args below meth c s₁ B hml hno hv
  obtain ⟨rfl, hsz, hP, hK, hD0, hE⟩ := hv
  have hx := B.exec
  have hb := B.bytes
  have hr := B.returns
  have hts : ∀ w ∈ lw_good, w.before _ s = true := fun w h => atoms_spec (ws := wx y_Ma_unwind b_Ma_unwind 5 none) B.pre w (List.mem_cons_of_mem _ h)
  have hown : s.vm.findClass R_Ma = some m.cls := findClass_of_methodNamed B.named
  have hlocks := B.notSynchronized
  subst hsz
  have hNS := xx_nostat hP
  have hD := hD0.self (sz := s.heap.size)
  generalize hAe : va_A [(aMa, .inr (6, [.ref aMa_bytes, .int (bI zAg.written), .int (iI zAg.pages), .ref aMa_globals, .int (iI zMa.steps), .ref aWa, .ref aCo, .int (iI zMa.reason), .int (iI zMa.next), .ref aMa_stack, .int (iI zAs.height), .ref aMa_functions, .ref aMa_bases, .ref aMa_returns, .int (iI zAf.depth), .int (iI zAf.variables), .int (iI zAf.values)])), (aMa_stack, .inl (cJ, 12096, .inr (.inl zAs.stack)))] s.heap.size = A at hD hE hNS ⊢
  have hA : ∀ q : Nat, s.heap.size ≤ q → A q := fun q h => by rw [← hAe]; exact Or.inr h
  have hS : va_S A s.heap s.heap [] := va_S.rf
  have hl := lv_entry ([.ref aMa, .int (iI v_to), .int (iI v_type)]) (n := 5) (Nat.le_of_ble_eq_true rfl)
  rw [lg_entry_eq]
  generalize (lg_sl ([.ref aMa, .int (iI v_to), .int (iI v_type)]) ++ List.replicate (5 - (lg_sl ([.ref aMa, .int (iI v_to), .int (iI v_type)])).length) Slot.unset).toArray = ls at hl ⊢
  have hl : lv_has ls 5 [(0, .ref aMa), (1, .int (iI v_to)), (2, .int (iI v_type))] := hl
  unfold f_Ma_unwind at hf
  refine lv_iload_n hx hb d_Ma_unwind_0 rfl (lv_at hl 2 rfl) ?_
  refine lv_bipush (v := iI 64) hx hb d_Ma_unwind_1 (by decide) ?_
  refine jpE hf (fun K_2 hK_2 hf9 => ?_)
  replace hf := hf9
  clear hf9
  have hJK_2 : ∀ (y_1 : KAs × Int64), KAs.Ok y_1.1 → K_2 y_1 = R9 → ∀ (H : Heap) (locs : List Loc), (fun w9 => va_P G classes w9 H → va_D A w9 → va_S A s.heap H locs → ∀ (ls : Array Slot), lv_has ls 5 [(0, .ref aMa), (1, .int (iI v_to)), (2, .int (iI v_type))] → W p l e (headSpec (wx y_Ma_unwind b_Ma_unwind 5 none) { frames := 1, cells := 0, slots := 0, locals := 22 }).room s m ([.ref aMa, .int (iI v_to), .int (iI v_type)] : List Value).toArray below meth c H locs 0 0 (MX below (XQ G classes A (pq_Ma_unwind cJ aMa aMa_bytes aMa_globals aWa aCo aMa_stack aMa_functions aMa_bases aMa_returns zAg zAf R9)) ([.ref aMa, .int (iI v_to), .int (iI v_type)] : List Value).toArray s 0 0 A) (F0 m 14 ls [.long y_1.2])) [(aMa, .inr (6, [.ref aMa_bytes, .int (bI zAg.written), .int (iI zAg.pages), .ref aMa_globals, .int (iI zMa.steps), .ref aWa, .ref aCo, .int (iI zMa.reason), .int (iI zMa.next), .ref aMa_stack, .int (iI y_1.1.height), .ref aMa_functions, .ref aMa_bases, .ref aMa_returns, .int (iI zAf.depth), .int (iI zAf.variables), .int (iI zAf.values)])), (aMa_stack, .inl (cJ, 12096, .inr (.inl y_1.1.stack)))] := by
    intro y_1 hy_1 hf H_6 locs_6 hP_6 hD_6 hS_6 ls hl
    clear hS hD hP
    replace hf := (congrFun hK_2 y_1).symm.trans hf
    clear hK_2
    refine lv_lstore_n (lv' := [(3, .long y_1.2), (0, .ref aMa), (1, .int (iI v_to)), (2, .int (iI v_type))]) hx hb d_Ma_unwind_14 rfl hl (by decide) rfl (fun ls hl => ?_)
    refine lv_aload_n hx hb d_Ma_unwind_15 rfl (lv_at hl 1 rfl) ?_
    refine lv_iload_n hx hb d_Ma_unwind_16 rfl (lv_at hl 2 rfl) ?_
    refine va_put (D := G) (ci := 6) (v := .int (iI v_to)) (ty := .int) (C := R_Ma) (T := F_Ma) (N := 17) hx hb hts i_Ma t_Ma t_Ma_ok n_Ma hown hK hP_6 hD_6 hS_6 0 rfl rfl 10 (by decide) (hts _ m_171) (fun _ h9 => h9) rfl (by decide +kernel) rfl rfl (Nat.le_of_ble_eq_true rfl) d_Ma_unwind_17 (fun H_7 locs_7 hP_7 hD_7 hS_7 => ?_)
    clear hS_6 hD_6 hP_6
    have hQ9 : (fun w9 => va_P G classes w9 H_7 ∧ va_D A w9) [(aMa, .inr (6, [.ref aMa_bytes, .int (bI zAg.written), .int (iI zAg.pages), .ref aMa_globals, .int (iI zMa.steps), .ref aWa, .ref aCo, .int (iI zMa.reason), .int (iI zMa.next), .ref aMa_stack, .int (iI v_to), .ref aMa_functions, .ref aMa_bases, .ref aMa_returns, .int (iI zAf.depth), .int (iI zAf.variables), .int (iI zAf.values)])), (aMa_stack, .inl (cJ, 12096, .inr (.inl y_1.1.stack)))] := ⟨hP_7, hD_7⟩
    clear hP_7 hD_7
    obtain ⟨hP_7, hD_7⟩ := hQ9
    refine lv_iload_n hx hb d_Ma_unwind_20 rfl (lv_at hl 3 rfl) ?_
    refine lv_bipush (v := iI 64) hx hb d_Ma_unwind_21 (by decide) ?_
    refine jpE hf (fun K_4 hK_4 hf9 => ?_)
    replace hf := hf9
    clear hf9
    have hJK_4 : ∀ (y_3 : KMa × KAs), KMa.Ok y_3.1 ∧ KAs.Ok y_3.2 → K_4 y_3 = R9 → ∀ (H_7 : Heap) (locs_7 : List Loc), (fun w9 => va_P G classes w9 H_7 → va_D A w9 → va_S A s.heap H_7 locs_7 → ∀ (ls : Array Slot), lv_has ls 5 [(0, .ref aMa), (1, .int (iI v_to)), (2, .int (iI v_type)), (3, .long y_1.2)] → W p l e (headSpec (wx y_Ma_unwind b_Ma_unwind 5 none) { frames := 1, cells := 0, slots := 0, locals := 22 }).room s m ([.ref aMa, .int (iI v_to), .int (iI v_type)] : List Value).toArray below meth c H_7 locs_7 0 0 (MX below (XQ G classes A (pq_Ma_unwind cJ aMa aMa_bytes aMa_globals aWa aCo aMa_stack aMa_functions aMa_bases aMa_returns zAg zAf R9)) ([.ref aMa, .int (iI v_to), .int (iI v_type)] : List Value).toArray s 0 0 A) (F0 m 31 ls [])) [(aMa, .inr (6, [.ref aMa_bytes, .int (bI zAg.written), .int (iI zAg.pages), .ref aMa_globals, .int (iI y_3.1.steps), .ref aWa, .ref aCo, .int (iI y_3.1.reason), .int (iI y_3.1.next), .ref aMa_stack, .int (iI y_3.2.height), .ref aMa_functions, .ref aMa_bases, .ref aMa_returns, .int (iI zAf.depth), .int (iI zAf.variables), .int (iI zAf.values)])), (aMa_stack, .inl (cJ, 12096, .inr (.inl y_3.2.stack)))] := by
      intro y_3 hy_3 hf H_9 locs_9 hP_9 hD_9 hS_9 ls hl
      clear hS_7 hD_7 hP_7
      replace hf := (congrFun hK_4 y_3).symm.trans hf
      clear hK_4
      exact ex_W (fun _ h => ex_mq h) (W.vret hx hb hr (fun t ht hW => ⟨⟨_, ozr hf ⟨⟨hy_3.1, hy_3.2⟩, rfl, rfl⟩, by rw [ht]; exact hP_9, hD_9⟩, hS_9.F ht⟩) hS_9.2.2 d_Ma_unwind_31)
    clear hK_4
    refine lv_icmp_eq (tgt := 31) hx hb d_Ma_unwind_23 (by decide) (fun c_5 => ?_) (fun c_5 => ?_)
    · have c_5 := ((zv_eq (iI_t hv_type) (iI_t (show R32 (64) by decide)))).mp c_5
      replace hf := ifp c_5 hf
      exact hJK_4 (zMa, KAs.mk y_1.1.stack v_to) ⟨hzMa, (KAs.Ok.mk hv_to : KAs.Ok (KAs.mk y_1.1.stack v_to))⟩ hf _ _ hP_7 hD_7 hS_7 _ (lv_sub hl [1, 2, 3, 0] rfl)
    · have c_5 := (fun q9 => c_5 (((zv_eq (iI_t hv_type) (iI_t (show R32 (64) by decide)))).mpr q9))
      replace hf := ifn c_5 hf
      refine lv_aload_n hx hb d_Ma_unwind_26 rfl (lv_at hl 1 rfl) ?_
      refine lv_lload_n hx hb d_Ma_unwind_27 rfl (lv_at hl 0 rfl) ?_
      replace hf := obE hnb hf
      obtain ⟨x_6, e_7, hf⟩ := hf
      refine xx_callV (wc := [(aMa, .inr (6, [.ref aMa_bytes, .int (bI zAg.written), .int (iI zAg.pages), .ref aMa_globals, .int (iI zMa.steps), .ref aWa, .ref aCo, .int (iI zMa.reason), .int (iI zMa.next), .ref aMa_stack, .int (iI v_to), .ref aMa_functions, .ref aMa_bases, .ref aMa_returns, .int (iI zAf.depth), .int (iI zAf.variables), .int (iI zAf.values)])), (aMa_stack, .inl (cJ, 12096, .inr (.inl y_1.1.stack)))]) (wr := []) (As := [.long y_1.2]) (rest := []) ⟨hx, hb, hml, hown, hts⟩ xE_st hK hE hA (k_Ma_push l htr G cB cI cJ cZ cG aMa aMa_bytes aMa_globals aWa aCo aMa_stack aMa_functions aMa_bases aMa_returns zAg zMa (KAs.mk y_1.1.stack v_to) zAf hzAg hzMa (KAs.Ok.mk hv_to : KAs.Ok (KAs.mk y_1.1.stack v_to)) hzAf y_1.2 (.ret x_6) e_7 ret_nb _) (xw_V 1 hts m_952 m_954 ms_Ma_push m_7 m_955 (by decide +kernel) ⟨(Nat.le_of_ble_eq_true rfl), (Nat.le_of_ble_eq_true rfl)⟩) hP_7 hD_7 hS_7 [0, 1] [] rfl rfl (by decide +kernel) (by decide +kernel) (by decide +kernel) 0 6 rfl rfl rfl rfl hl.1 rfl (Nat.le_of_ble_eq_true rfl) d_Ma_unwind_28 ⟨(Nat.le_of_ble_eq_true rfl), (Nat.le_of_ble_eq_true rfl)⟩ (fun v9 w9 H_10 locs_10 hp hP_10 hD_10 hS_10 => ?_) (fun x9 w9 H9 l9 hp _ _ _ => absurd hp (fun q9 => by obtain ⟨-, ho, -⟩ := q9; cases ho))
      clear hS_7 hD_7 hP_7
      obtain ⟨hx_6, ho, rfl⟩ := hp
      cases ho
      have hQ9 : (fun w9 => va_P G classes w9 H_10 ∧ va_D A w9) [(aMa, .inr (6, [.ref aMa_bytes, .int (bI zAg.written), .int (iI zAg.pages), .ref aMa_globals, .int (iI x_6.1.steps), .ref aWa, .ref aCo, .int (iI x_6.1.reason), .int (iI x_6.1.next), .ref aMa_stack, .int (iI x_6.2.height), .ref aMa_functions, .ref aMa_bases, .ref aMa_returns, .int (iI zAf.depth), .int (iI zAf.variables), .int (iI zAf.values)])), (aMa_stack, .inl (cJ, 12096, .inr (.inl x_6.2.stack)))] := ⟨hP_10, hD_10⟩
      clear hP_10 hD_10
      obtain ⟨hP_10, hD_10⟩ := hQ9
      exact hJK_4 (x_6.1, x_6.2) ⟨hx_6.1, hx_6.2⟩ hf _ _ hP_10 hD_10 hS_10 _ (lv_sub hl [1, 2, 3, 0] rfl)
  clear hK_2
  refine lv_icmp_ne (tgt := 10) hx hb d_Ma_unwind_3 (by decide) (fun c_8 => ?_) (fun c_8 => ?_)
  · have c_8 := (fun q9 => c_8 (((zv_eq (iI_t hv_type) (iI_t (show R32 (64) by decide)))).mpr q9))
    replace hf := ifn c_8 hf
    refine lv_aload_n hx hb d_Ma_unwind_10 rfl (lv_at hl 0 rfl) ?_
    replace hf := obE hnb hf
    obtain ⟨x_9, e_10, hf⟩ := hf
    refine xx_callV (wc := [(aMa, .inr (6, [.ref aMa_bytes, .int (bI zAg.written), .int (iI zAg.pages), .ref aMa_globals, .int (iI zMa.steps), .ref aWa, .ref aCo, .int (iI zMa.reason), .int (iI zMa.next), .ref aMa_stack, .int (iI zAs.height), .ref aMa_functions, .ref aMa_bases, .ref aMa_returns, .int (iI zAf.depth), .int (iI zAf.variables), .int (iI zAf.values)])), (aMa_stack, .inl (cJ, 12096, .inr (.inl zAs.stack)))]) (wr := []) (As := []) (rest := []) ⟨hx, hb, hml, hown, hts⟩ xE_st hK hE hA (k_Ma_pop l htr G cB cI cJ cZ cG aMa aMa_bytes aMa_globals aWa aCo aMa_stack aMa_functions aMa_bases aMa_returns zAg zMa zAs zAf hzAg hzMa hzAs hzAf (.ret x_9) e_10 ret_nb _) (xw_V 0 hts m_970 m_972 ms_Ma_pop m_7 m_973 (by decide +kernel) ⟨(Nat.le_of_ble_eq_true rfl), (Nat.le_of_ble_eq_true rfl)⟩) hP hD hS [0, 1] [] rfl rfl (by decide +kernel) (by decide +kernel) (by decide +kernel) 0 6 rfl rfl rfl rfl hl.1 rfl (Nat.le_of_ble_eq_true rfl) d_Ma_unwind_11 ⟨(Nat.le_of_ble_eq_true rfl), (Nat.le_of_ble_eq_true rfl)⟩ (fun v9 w9 H_11 locs_11 hp hP_11 hD_11 hS_11 => ?_) (fun x9 w9 H9 l9 hp _ _ _ => absurd hp (fun q9 => by obtain ⟨-, ho, -⟩ := q9; cases ho))
    clear hS hD hP
    obtain ⟨hx_9, ho, rfl⟩ := hp
    cases ho
    have hQ9 : (fun w9 => va_P G classes w9 H_11 ∧ va_D A w9) [(aMa, .inr (6, [.ref aMa_bytes, .int (bI zAg.written), .int (iI zAg.pages), .ref aMa_globals, .int (iI zMa.steps), .ref aWa, .ref aCo, .int (iI zMa.reason), .int (iI zMa.next), .ref aMa_stack, .int (iI x_9.1.height), .ref aMa_functions, .ref aMa_bases, .ref aMa_returns, .int (iI zAf.depth), .int (iI zAf.variables), .int (iI zAf.values)])), (aMa_stack, .inl (cJ, 12096, .inr (.inl x_9.1.stack)))] := ⟨hP_11, hD_11⟩
    clear hP_11 hD_11
    obtain ⟨hP_11, hD_11⟩ := hQ9
    exact hJK_2 (x_9.1, x_9.2) hx_9 hf _ _ hP_11 hD_11 hS_11 _ (lv_sub hl [0, 1, 2] rfl)
  · have c_8 := ((zv_eq (iI_t hv_type) (iI_t (show R32 (64) by decide)))).mp c_8
    replace hf := ifp c_8 hf
    refine lv_lconst (v := 0) hx hb d_Ma_unwind_6 (by decide) ?_
    refine lv_goto (tgt := 14) hx hb d_Ma_unwind_7 (by decide) ?_
    exact hJK_2 (zAs, 0) hzAs hf _ _ hP hD hS _ (lv_sub hl [0, 1, 2] rfl)
set_option maxRecDepth 100000 in
abbrev pq_Ma_enter (cI cJ : ClassId) (aWa : Nat) (aWa_parameterCounts : Nat) (aWa_parameters : Nat) (aWa_results : Nat) (aWa_functionTypes : Nat) (aWa_starts : Nat) (aWa_localCounts : Nat) (aWa_locals : Nat) (aWa_globalTypes : Nat) (aWa_globalsChange : Nat) (aWa_initialTypes : Nat) (aWa_initialValues : Nat) (aEx : Nat) (aCo : Nat) (aMa : Nat) (aMa_bytes : Nat) (aMa_globals : Nat) (aMa_stack : Nat) (aMa_functions : Nat) (aMa_bases : Nat) (aMa_returns : Nat) (zW1 : KW1) (zW3 : KW3) (zWj : KWj) (zW5 : KW5) (zW6 : KW6) (zAg : KAg) (R9 : Out Empty (KMa × KAs × KAf)) := (fun (o : Outcome) (w1 : va_W) => ozp R9 (fun x9 => (KMa.Ok x9.1 ∧ KAs.Ok x9.2.1 ∧ KAf.Ok x9.2.2) ∧ o = .returned none ∧ w1 = [(aWa, .inr (7, [.int (iI zW1.typeCount), .ref aWa_parameterCounts, .ref aWa_parameters, .ref aWa_results, .int (iI zW3.functionCount), .ref aWa_functionTypes, .ref aWa_starts, .ref aWa_localCounts, .ref aWa_locals, .int (bI zW5.hasMemory), .long zW5.pagesAtFirst, .long zW5.pagesMost, .int (iI zW6.globalCount), .ref aWa_globalTypes, .ref aWa_globalsChange, .ref aWa_initialTypes, .ref aWa_initialValues, .ref aEx, .ref aCo])), (aWa_parameterCounts, .inl (cI, 20, .inl (fun k9 => iI (zW1.parameterCounts k9)))), (aWa_functionTypes, .inl (cI, 30, .inl (fun k9 => iI (zW3.functionTypes k9)))), (aWa_starts, .inl (cI, 30, .inl (fun k9 => iI (zWj.starts k9)))), (aWa_localCounts, .inl (cI, 30, .inl (fun k9 => iI (zWj.localCounts k9)))), (aMa, .inr (6, [.ref aMa_bytes, .int (bI zAg.written), .int (iI zAg.pages), .ref aMa_globals, .int (iI x9.1.steps), .ref aWa, .ref aCo, .int (iI x9.1.reason), .int (iI x9.1.next), .ref aMa_stack, .int (iI x9.2.1.height), .ref aMa_functions, .ref aMa_bases, .ref aMa_returns, .int (iI x9.2.2.depth), .int (iI x9.2.2.variables), .int (iI x9.2.2.values)])), (aMa_stack, .inl (cJ, 12096, .inr (.inl x9.2.1.stack))), (aMa_functions, .inl (cI, 100, .inl (fun k9 => iI (x9.2.2.functions k9)))), (aMa_bases, .inl (cI, 100, .inl (fun k9 => iI (x9.2.2.bases k9)))), (aMa_returns, .inl (cI, 100, .inl (fun k9 => iI (x9.2.2.returns k9))))]) (fun _ => False))
set_option maxHeartbeats 8000000 in
set_option maxRecDepth 100000 in
theorem k_Ma_enter (l : Launch) (htr : l.stackTraces = false) (G : va_G) (cB cI cJ cZ cG : ClassId) (aWa : Nat) (aWa_parameterCounts : Nat) (aWa_parameters : Nat) (aWa_results : Nat) (aWa_functionTypes : Nat) (aWa_starts : Nat) (aWa_localCounts : Nat) (aWa_locals : Nat) (aWa_globalTypes : Nat) (aWa_globalsChange : Nat) (aWa_initialTypes : Nat) (aWa_initialValues : Nat) (aEx : Nat) (aCo : Nat) (aMa : Nat) (aMa_bytes : Nat) (aMa_globals : Nat) (aMa_stack : Nat) (aMa_functions : Nat) (aMa_bases : Nat) (aMa_returns : Nat) (zW1 : KW1) (zW3 : KW3) (zWj : KWj) (zW5 : KW5) (zW6 : KW6) (zAg : KAg) (zMa : KMa) (zAs : KAs) (zAf : KAf) (hzW1 : KW1.Ok zW1) (hzW3 : KW3.Ok zW3) (hzWj : KWj.Ok zWj) (hzW5 : KW5.Ok zW5) (hzW6 : KW6.Ok zW6) (hzAg : KAg.Ok zAg) (hzMa : KMa.Ok zMa) (hzAs : KAs.Ok zAs) (hzAf : KAf.Ok zAf) (v_f : Int) (hv_f : R32 v_f) (fu : Nat) (R9 : Out Empty (KMa × KAs × KAf)) (hf : f_Ma_enter fu zW1 zW3 zWj zMa zAs zAf v_f = R9) (hnb : R9 ≠ .bad) (sz : Nat) : MetX l y_Ma_enter (wx y_Ma_enter b_Ma_enter 4 none) { frames := 1, cells := 0, slots := 0, locals := 22 } (XP G classes (xtys cB cI cJ cZ cG) xE [.ref aMa, .int (iI v_f)] [(aWa, .inr (7, [.int (iI zW1.typeCount), .ref aWa_parameterCounts, .ref aWa_parameters, .ref aWa_results, .int (iI zW3.functionCount), .ref aWa_functionTypes, .ref aWa_starts, .ref aWa_localCounts, .ref aWa_locals, .int (bI zW5.hasMemory), .long zW5.pagesAtFirst, .long zW5.pagesMost, .int (iI zW6.globalCount), .ref aWa_globalTypes, .ref aWa_globalsChange, .ref aWa_initialTypes, .ref aWa_initialValues, .ref aEx, .ref aCo])), (aWa_parameterCounts, .inl (cI, 20, .inl (fun k9 => iI (zW1.parameterCounts k9)))), (aWa_functionTypes, .inl (cI, 30, .inl (fun k9 => iI (zW3.functionTypes k9)))), (aWa_starts, .inl (cI, 30, .inl (fun k9 => iI (zWj.starts k9)))), (aWa_localCounts, .inl (cI, 30, .inl (fun k9 => iI (zWj.localCounts k9)))), (aMa, .inr (6, [.ref aMa_bytes, .int (bI zAg.written), .int (iI zAg.pages), .ref aMa_globals, .int (iI zMa.steps), .ref aWa, .ref aCo, .int (iI zMa.reason), .int (iI zMa.next), .ref aMa_stack, .int (iI zAs.height), .ref aMa_functions, .ref aMa_bases, .ref aMa_returns, .int (iI zAf.depth), .int (iI zAf.variables), .int (iI zAf.values)])), (aMa_stack, .inl (cJ, 12096, .inr (.inl zAs.stack))), (aMa_functions, .inl (cI, 100, .inl (fun k9 => iI (zAf.functions k9)))), (aMa_bases, .inl (cI, 100, .inl (fun k9 => iI (zAf.bases k9)))), (aMa_returns, .inl (cI, 100, .inl (fun k9 => iI (zAf.returns k9))))] sz) (XQ G classes (va_A [(aWa, .inr (7, [.int (iI zW1.typeCount), .ref aWa_parameterCounts, .ref aWa_parameters, .ref aWa_results, .int (iI zW3.functionCount), .ref aWa_functionTypes, .ref aWa_starts, .ref aWa_localCounts, .ref aWa_locals, .int (bI zW5.hasMemory), .long zW5.pagesAtFirst, .long zW5.pagesMost, .int (iI zW6.globalCount), .ref aWa_globalTypes, .ref aWa_globalsChange, .ref aWa_initialTypes, .ref aWa_initialValues, .ref aEx, .ref aCo])), (aWa_parameterCounts, .inl (cI, 20, .inl (fun k9 => iI (zW1.parameterCounts k9)))), (aWa_functionTypes, .inl (cI, 30, .inl (fun k9 => iI (zW3.functionTypes k9)))), (aWa_starts, .inl (cI, 30, .inl (fun k9 => iI (zWj.starts k9)))), (aWa_localCounts, .inl (cI, 30, .inl (fun k9 => iI (zWj.localCounts k9)))), (aMa, .inr (6, [.ref aMa_bytes, .int (bI zAg.written), .int (iI zAg.pages), .ref aMa_globals, .int (iI zMa.steps), .ref aWa, .ref aCo, .int (iI zMa.reason), .int (iI zMa.next), .ref aMa_stack, .int (iI zAs.height), .ref aMa_functions, .ref aMa_bases, .ref aMa_returns, .int (iI zAf.depth), .int (iI zAf.variables), .int (iI zAf.values)])), (aMa_stack, .inl (cJ, 12096, .inr (.inl zAs.stack))), (aMa_functions, .inl (cI, 100, .inl (fun k9 => iI (zAf.functions k9)))), (aMa_bases, .inl (cI, 100, .inl (fun k9 => iI (zAf.bases k9)))), (aMa_returns, .inl (cI, 100, .inl (fun k9 => iI (zAf.returns k9))))] sz) (fun o w1 => ozp R9 (fun x9 => (KMa.Ok x9.1 ∧ KAs.Ok x9.2.1 ∧ KAf.Ok x9.2.2) ∧ o = .returned none ∧ w1 = [(aWa, .inr (7, [.int (iI zW1.typeCount), .ref aWa_parameterCounts, .ref aWa_parameters, .ref aWa_results, .int (iI zW3.functionCount), .ref aWa_functionTypes, .ref aWa_starts, .ref aWa_localCounts, .ref aWa_locals, .int (bI zW5.hasMemory), .long zW5.pagesAtFirst, .long zW5.pagesMost, .int (iI zW6.globalCount), .ref aWa_globalTypes, .ref aWa_globalsChange, .ref aWa_initialTypes, .ref aWa_initialValues, .ref aEx, .ref aCo])), (aWa_parameterCounts, .inl (cI, 20, .inl (fun k9 => iI (zW1.parameterCounts k9)))), (aWa_functionTypes, .inl (cI, 30, .inl (fun k9 => iI (zW3.functionTypes k9)))), (aWa_starts, .inl (cI, 30, .inl (fun k9 => iI (zWj.starts k9)))), (aWa_localCounts, .inl (cI, 30, .inl (fun k9 => iI (zWj.localCounts k9)))), (aMa, .inr (6, [.ref aMa_bytes, .int (bI zAg.written), .int (iI zAg.pages), .ref aMa_globals, .int (iI x9.1.steps), .ref aWa, .ref aCo, .int (iI x9.1.reason), .int (iI x9.1.next), .ref aMa_stack, .int (iI x9.2.1.height), .ref aMa_functions, .ref aMa_bases, .ref aMa_returns, .int (iI x9.2.2.depth), .int (iI x9.2.2.variables), .int (iI x9.2.2.values)])), (aMa_stack, .inl (cJ, 12096, .inr (.inl x9.2.1.stack))), (aMa_functions, .inl (cI, 100, .inl (fun k9 => iI (x9.2.2.functions k9)))), (aMa_bases, .inl (cI, 100, .inl (fun k9 => iI (x9.2.2.bases k9)))), (aMa_returns, .inl (cI, 100, .inl (fun k9 => iI (x9.2.2.returns k9))))]) (fun _ => False))) 0 0 (va_A [(aWa, .inr (7, [.int (iI zW1.typeCount), .ref aWa_parameterCounts, .ref aWa_parameters, .ref aWa_results, .int (iI zW3.functionCount), .ref aWa_functionTypes, .ref aWa_starts, .ref aWa_localCounts, .ref aWa_locals, .int (bI zW5.hasMemory), .long zW5.pagesAtFirst, .long zW5.pagesMost, .int (iI zW6.globalCount), .ref aWa_globalTypes, .ref aWa_globalsChange, .ref aWa_initialTypes, .ref aWa_initialValues, .ref aEx, .ref aCo])), (aWa_parameterCounts, .inl (cI, 20, .inl (fun k9 => iI (zW1.parameterCounts k9)))), (aWa_functionTypes, .inl (cI, 30, .inl (fun k9 => iI (zW3.functionTypes k9)))), (aWa_starts, .inl (cI, 30, .inl (fun k9 => iI (zWj.starts k9)))), (aWa_localCounts, .inl (cI, 30, .inl (fun k9 => iI (zWj.localCounts k9)))), (aMa, .inr (6, [.ref aMa_bytes, .int (bI zAg.written), .int (iI zAg.pages), .ref aMa_globals, .int (iI zMa.steps), .ref aWa, .ref aCo, .int (iI zMa.reason), .int (iI zMa.next), .ref aMa_stack, .int (iI zAs.height), .ref aMa_functions, .ref aMa_bases, .ref aMa_returns, .int (iI zAf.depth), .int (iI zAf.variables), .int (iI zAf.values)])), (aMa_stack, .inl (cJ, 12096, .inr (.inl zAs.stack))), (aMa_functions, .inl (cI, 100, .inl (fun k9 => iI (zAf.functions k9)))), (aMa_bases, .inl (cI, 100, .inl (fun k9 => iI (zAf.bases k9)))), (aMa_returns, .inl (cI, 100, .inl (fun k9 => iI (zAf.returns k9))))] sz) := by
  refine ex_ofW (cc := b_Ma_enter) (maxL := 4) (ret := none) (by decide) rfl ?_
  intro p e s m args below meth c s₁ B hml hno hv
  obtain ⟨rfl, hsz, hP, hK, hD0, hE⟩ := hv
  have hx := B.exec
  have hb := B.bytes
  have hr := B.returns
  have hts : ∀ w ∈ lw_good, w.before _ s = true := fun w h => atoms_spec (ws := wx y_Ma_enter b_Ma_enter 4 none) B.pre w (List.mem_cons_of_mem _ h)
  have hown : s.vm.findClass R_Ma = some m.cls := findClass_of_methodNamed B.named
  have hlocks := B.notSynchronized
  subst hsz
  have hNS := xx_nostat hP
  have hD := hD0.self (sz := s.heap.size)
  generalize hAe : va_A [(aWa, .inr (7, [.int (iI zW1.typeCount), .ref aWa_parameterCounts, .ref aWa_parameters, .ref aWa_results, .int (iI zW3.functionCount), .ref aWa_functionTypes, .ref aWa_starts, .ref aWa_localCounts, .ref aWa_locals, .int (bI zW5.hasMemory), .long zW5.pagesAtFirst, .long zW5.pagesMost, .int (iI zW6.globalCount), .ref aWa_globalTypes, .ref aWa_globalsChange, .ref aWa_initialTypes, .ref aWa_initialValues, .ref aEx, .ref aCo])), (aWa_parameterCounts, .inl (cI, 20, .inl (fun k9 => iI (zW1.parameterCounts k9)))), (aWa_functionTypes, .inl (cI, 30, .inl (fun k9 => iI (zW3.functionTypes k9)))), (aWa_starts, .inl (cI, 30, .inl (fun k9 => iI (zWj.starts k9)))), (aWa_localCounts, .inl (cI, 30, .inl (fun k9 => iI (zWj.localCounts k9)))), (aMa, .inr (6, [.ref aMa_bytes, .int (bI zAg.written), .int (iI zAg.pages), .ref aMa_globals, .int (iI zMa.steps), .ref aWa, .ref aCo, .int (iI zMa.reason), .int (iI zMa.next), .ref aMa_stack, .int (iI zAs.height), .ref aMa_functions, .ref aMa_bases, .ref aMa_returns, .int (iI zAf.depth), .int (iI zAf.variables), .int (iI zAf.values)])), (aMa_stack, .inl (cJ, 12096, .inr (.inl zAs.stack))), (aMa_functions, .inl (cI, 100, .inl (fun k9 => iI (zAf.functions k9)))), (aMa_bases, .inl (cI, 100, .inl (fun k9 => iI (zAf.bases k9)))), (aMa_returns, .inl (cI, 100, .inl (fun k9 => iI (zAf.returns k9))))] s.heap.size = A at hD hE hNS ⊢
  have hA : ∀ q : Nat, s.heap.size ≤ q → A q := fun q h => by rw [← hAe]; exact Or.inr h
  have hS : va_S A s.heap s.heap [] := va_S.rf
  have hl := lv_entry ([.ref aMa, .int (iI v_f)]) (n := 4) (Nat.le_of_ble_eq_true rfl)
  rw [lg_entry_eq]
  generalize (lg_sl ([.ref aMa, .int (iI v_f)]) ++ List.replicate (4 - (lg_sl ([.ref aMa, .int (iI v_f)])).length) Slot.unset).toArray = ls at hl ⊢
  have hl : lv_has ls 4 [(0, .ref aMa), (1, .int (iI v_f))] := hl
  unfold f_Ma_enter at hf
  refine lv_aload_n hx hb d_Ma_enter_0 rfl (lv_at hl 0 rfl) ?_
  refine va_get (D := G) (ci := 6) (v := .ref aWa) (C := R_Ma) (T := F_Ma) (N := 17) hx hb hts i_Ma hown hK hP 5 rfl rfl 5 (by decide) (hts _ m_166) (fun _ h9 => h9) rfl d_Ma_enter_1 ?_
  refine va_get (D := G) (ci := 7) (v := .ref aWa_localCounts) (C := R_Wa) (T := F_Wa) (N := 19) hx hb hts i_Wa hown hK hP 0 rfl rfl 7 (by decide) (hts _ m_337) (fun _ h9 => h9) rfl d_Ma_enter_4 ?_
  refine lv_iload_n hx hb d_Ma_enter_7 rfl (lv_at hl 1 rfl) ?_
  replace hf := grd hnb hf
  obtain ⟨g_1, hf⟩ := hf
  refine va_iald hx hb hK hP 4 1 rfl rfl (vp_in_iI hv_f g_1) d_Ma_enter_8 ?_
  refine W.eq (g2 := F0 m 9 ls [.int (iI (zWj.localCounts v_f.toNat))]) (by rw [iI_clamp hv_f] <;> rfl) ?_
  refine lv_istore_n (lv' := [(2, .int (iI (zWj.localCounts v_f.toNat))), (0, .ref aMa), (1, .int (iI v_f))]) hx hb d_Ma_enter_9 rfl hl (by decide) rfl (fun ls hl => ?_)
  refine lv_aload_n hx hb d_Ma_enter_10 rfl (lv_at hl 1 rfl) ?_
  refine va_get (D := G) (ci := 6) (v := .int (iI zAf.depth)) (C := R_Ma) (T := F_Ma) (N := 17) hx hb hts i_Ma hown hK hP 5 rfl rfl 14 (by decide) (hts _ m_175) (fun _ h9 => h9) rfl d_Ma_enter_11 ?_
  refine lv_bipush (v := iI 100) hx hb d_Ma_enter_14 (by decide) ?_
  refine jpE hf (fun K_3 hK_3 hf9 => ?_)
  replace hf := hf9
  clear hf9
  have hJK_3 : ∀ (y_2 : Unit), True → K_3 y_2 = R9 → ∀ (H : Heap) (locs : List Loc), (fun w9 => va_P G classes w9 H → va_D A w9 → va_S A s.heap H locs → ∀ (ls : Array Slot), lv_has ls 4 [(0, .ref aMa), (1, .int (iI v_f)), (2, .int (iI (zWj.localCounts v_f.toNat)))] → W p l e (headSpec (wx y_Ma_enter b_Ma_enter 4 none) { frames := 1, cells := 0, slots := 0, locals := 22 }).room s m ([.ref aMa, .int (iI v_f)] : List Value).toArray below meth c H locs 0 0 (MX below (XQ G classes A (pq_Ma_enter cI cJ aWa aWa_parameterCounts aWa_parameters aWa_results aWa_functionTypes aWa_starts aWa_localCounts aWa_locals aWa_globalTypes aWa_globalsChange aWa_initialTypes aWa_initialValues aEx aCo aMa aMa_bytes aMa_globals aMa_stack aMa_functions aMa_bases aMa_returns zW1 zW3 zWj zW5 zW6 zAg R9)) ([.ref aMa, .int (iI v_f)] : List Value).toArray s 0 0 A) (F0 m 31 ls [])) [(aWa, .inr (7, [.int (iI zW1.typeCount), .ref aWa_parameterCounts, .ref aWa_parameters, .ref aWa_results, .int (iI zW3.functionCount), .ref aWa_functionTypes, .ref aWa_starts, .ref aWa_localCounts, .ref aWa_locals, .int (bI zW5.hasMemory), .long zW5.pagesAtFirst, .long zW5.pagesMost, .int (iI zW6.globalCount), .ref aWa_globalTypes, .ref aWa_globalsChange, .ref aWa_initialTypes, .ref aWa_initialValues, .ref aEx, .ref aCo])), (aWa_parameterCounts, .inl (cI, 20, .inl (fun k9 => iI (zW1.parameterCounts k9)))), (aWa_functionTypes, .inl (cI, 30, .inl (fun k9 => iI (zW3.functionTypes k9)))), (aWa_starts, .inl (cI, 30, .inl (fun k9 => iI (zWj.starts k9)))), (aWa_localCounts, .inl (cI, 30, .inl (fun k9 => iI (zWj.localCounts k9)))), (aMa, .inr (6, [.ref aMa_bytes, .int (bI zAg.written), .int (iI zAg.pages), .ref aMa_globals, .int (iI zMa.steps), .ref aWa, .ref aCo, .int (iI zMa.reason), .int (iI zMa.next), .ref aMa_stack, .int (iI zAs.height), .ref aMa_functions, .ref aMa_bases, .ref aMa_returns, .int (iI zAf.depth), .int (iI zAf.variables), .int (iI zAf.values)])), (aMa_stack, .inl (cJ, 12096, .inr (.inl zAs.stack))), (aMa_functions, .inl (cI, 100, .inl (fun k9 => iI (zAf.functions k9)))), (aMa_bases, .inl (cI, 100, .inl (fun k9 => iI (zAf.bases k9)))), (aMa_returns, .inl (cI, 100, .inl (fun k9 => iI (zAf.returns k9))))] := by
    intro y_2 hy_2 hf H_15 locs_15 hP_15 hD_15 hS_15 ls hl
    clear hS hD hP
    replace hf := (congrFun hK_3 y_2).symm.trans hf
    clear hK_3
    refine lv_aload_n hx hb d_Ma_enter_31 rfl (lv_at hl 0 rfl) ?_
    refine lv_bipush (v := iI 7) hx hb d_Ma_enter_32 (by decide) ?_
    refine va_put (D := G) (ci := 6) (v := .int (iI 7)) (ty := .int) (C := R_Ma) (T := F_Ma) (N := 17) hx hb hts i_Ma t_Ma t_Ma_ok n_Ma hown hK hP_15 hD_15 hS_15 5 rfl rfl 7 (by decide) (hts _ m_168) (fun _ h9 => h9) rfl (by decide +kernel) rfl rfl (Nat.le_of_ble_eq_true rfl) d_Ma_enter_34 (fun H_16 locs_16 hP_16 hD_16 hS_16 => ?_)
    clear hS_15 hD_15 hP_15
    have hQ9 : (fun w9 => va_P G classes w9 H_16 ∧ va_D A w9) [(aWa, .inr (7, [.int (iI zW1.typeCount), .ref aWa_parameterCounts, .ref aWa_parameters, .ref aWa_results, .int (iI zW3.functionCount), .ref aWa_functionTypes, .ref aWa_starts, .ref aWa_localCounts, .ref aWa_locals, .int (bI zW5.hasMemory), .long zW5.pagesAtFirst, .long zW5.pagesMost, .int (iI zW6.globalCount), .ref aWa_globalTypes, .ref aWa_globalsChange, .ref aWa_initialTypes, .ref aWa_initialValues, .ref aEx, .ref aCo])), (aWa_parameterCounts, .inl (cI, 20, .inl (fun k9 => iI (zW1.parameterCounts k9)))), (aWa_functionTypes, .inl (cI, 30, .inl (fun k9 => iI (zW3.functionTypes k9)))), (aWa_starts, .inl (cI, 30, .inl (fun k9 => iI (zWj.starts k9)))), (aWa_localCounts, .inl (cI, 30, .inl (fun k9 => iI (zWj.localCounts k9)))), (aMa, .inr (6, [.ref aMa_bytes, .int (bI zAg.written), .int (iI zAg.pages), .ref aMa_globals, .int (iI zMa.steps), .ref aWa, .ref aCo, .int (iI 7), .int (iI zMa.next), .ref aMa_stack, .int (iI zAs.height), .ref aMa_functions, .ref aMa_bases, .ref aMa_returns, .int (iI zAf.depth), .int (iI zAf.variables), .int (iI zAf.values)])), (aMa_stack, .inl (cJ, 12096, .inr (.inl zAs.stack))), (aMa_functions, .inl (cI, 100, .inl (fun k9 => iI (zAf.functions k9)))), (aMa_bases, .inl (cI, 100, .inl (fun k9 => iI (zAf.bases k9)))), (aMa_returns, .inl (cI, 100, .inl (fun k9 => iI (zAf.returns k9))))] := ⟨hP_16, hD_16⟩
    clear hP_16 hD_16
    obtain ⟨hP_16, hD_16⟩ := hQ9
    exact ex_W (fun _ h => ex_mq h) (W.vret hx hb hr (fun t ht hW => ⟨⟨_, ozr hf ⟨⟨(KMa.Ok.mk hzMa.steps (show R32 (7) by decide) hzMa.next : KMa.Ok (KMa.mk zMa.steps 7 zMa.next)), hzAs, hzAf⟩, rfl, rfl⟩, by rw [ht]; exact hP_16, hD_16⟩, hS_16.F ht⟩) hS_16.2.2 d_Ma_enter_37)
  clear hK_3
  refine lv_icmp_ge (tgt := 31) hx hb d_Ma_enter_16 (by decide) (fun c_4 => ?_) (fun c_4 => ?_)
  · have c_4 := ((zv_le (iI_t (show R32 (100) by decide)) (iI_t hzAf.depth))).mp c_4
    replace hf := ifp c_4 hf
    exact hJK_3 () trivial hf _ _ hP hD hS _ (lv_sub hl [1, 2, 0] rfl)
  · have c_4 := (fun q9 => c_4 (((zv_le (iI_t (show R32 (100) by decide)) (iI_t hzAf.depth))).mpr q9))
    replace hf := ifn c_4 hf
    refine lv_aload_n hx hb d_Ma_enter_19 rfl (lv_at hl 1 rfl) ?_
    refine va_get (D := G) (ci := 6) (v := .int (iI zAs.height)) (C := R_Ma) (T := F_Ma) (N := 17) hx hb hts i_Ma hown hK hP 5 rfl rfl 10 (by decide) (hts _ m_171) (fun _ h9 => h9) rfl d_Ma_enter_20 ?_
    refine lv_iload_n hx hb d_Ma_enter_23 rfl (lv_at hl 0 rfl) ?_
    refine lv_iadd hx hb d_Ma_enter_24 ?_
    refine lv_topi (fun x9 e9 => ?_)
    obtain rfl : x9 = iI (zAs.height + (zWj.localCounts v_f.toNat)) := e9.trans (iI_add _ _)
    replace hf := grd hnb hf
    obtain ⟨g_5, hf⟩ := hf
    refine lv_sipush (v := iI 12096) hx hb d_Ma_enter_25 (by decide) ?_
    refine lv_icmp_le (tgt := 38) hx hb d_Ma_enter_28 (by decide) (fun c_6 => ?_) (fun c_6 => ?_)
    · have c_6 := ((zv_le (iI_t g_5) (iI_t (show R32 (12096) by decide)))).mp c_6
      replace hf := ifp c_6 hf
      refine lv_aload_n hx hb d_Ma_enter_38 rfl (lv_at hl 1 rfl) ?_
      refine va_get (D := G) (ci := 6) (v := .ref aMa_functions) (C := R_Ma) (T := F_Ma) (N := 17) hx hb hts i_Ma hown hK hP 5 rfl rfl 11 (by decide) (hts _ m_172) (fun _ h9 => h9) rfl d_Ma_enter_39 ?_
      refine lv_aload_n hx hb d_Ma_enter_42 rfl (lv_at hl 1 rfl) ?_
      refine va_get (D := G) (ci := 6) (v := .int (iI zAf.depth)) (C := R_Ma) (T := F_Ma) (N := 17) hx hb hts i_Ma hown hK hP 5 rfl rfl 14 (by decide) (hts _ m_175) (fun _ h9 => h9) rfl d_Ma_enter_43 ?_
      refine lv_iload_n hx hb d_Ma_enter_46 rfl (lv_at hl 2 rfl) ?_
      replace hf := grd hnb hf
      obtain ⟨g_7, hf⟩ := hf
      refine va_iast hx hb hK hP hD hS 7 1 rfl rfl (vp_in_iI hzAf.depth g_7) d_Ma_enter_47 (fun H_17 locs_17 hP_17 hD_17 hS_17 => ?_)
      clear hS hD hP
      rw [iI_clamp hzAf.depth, upd_iI] at hP_17 hD_17
      have hQ9 : (fun w9 => va_P G classes w9 H_17 ∧ va_D A w9) [(aWa, .inr (7, [.int (iI zW1.typeCount), .ref aWa_parameterCounts, .ref aWa_parameters, .ref aWa_results, .int (iI zW3.functionCount), .ref aWa_functionTypes, .ref aWa_starts, .ref aWa_localCounts, .ref aWa_locals, .int (bI zW5.hasMemory), .long zW5.pagesAtFirst, .long zW5.pagesMost, .int (iI zW6.globalCount), .ref aWa_globalTypes, .ref aWa_globalsChange, .ref aWa_initialTypes, .ref aWa_initialValues, .ref aEx, .ref aCo])), (aWa_parameterCounts, .inl (cI, 20, .inl (fun k9 => iI (zW1.parameterCounts k9)))), (aWa_functionTypes, .inl (cI, 30, .inl (fun k9 => iI (zW3.functionTypes k9)))), (aWa_starts, .inl (cI, 30, .inl (fun k9 => iI (zWj.starts k9)))), (aWa_localCounts, .inl (cI, 30, .inl (fun k9 => iI (zWj.localCounts k9)))), (aMa, .inr (6, [.ref aMa_bytes, .int (bI zAg.written), .int (iI zAg.pages), .ref aMa_globals, .int (iI zMa.steps), .ref aWa, .ref aCo, .int (iI zMa.reason), .int (iI zMa.next), .ref aMa_stack, .int (iI zAs.height), .ref aMa_functions, .ref aMa_bases, .ref aMa_returns, .int (iI zAf.depth), .int (iI zAf.variables), .int (iI zAf.values)])), (aMa_stack, .inl (cJ, 12096, .inr (.inl zAs.stack))), (aMa_functions, .inl (cI, 100, .inl (fun k9 => iI ((updZ zAf.functions zAf.depth.toNat v_f) k9)))), (aMa_bases, .inl (cI, 100, .inl (fun k9 => iI (zAf.bases k9)))), (aMa_returns, .inl (cI, 100, .inl (fun k9 => iI (zAf.returns k9))))] := ⟨hP_17, hD_17⟩
      clear hP_17 hD_17
      obtain ⟨hP_17, hD_17⟩ := hQ9
      refine lv_aload_n hx hb d_Ma_enter_48 rfl (lv_at hl 1 rfl) ?_
      refine va_get (D := G) (ci := 6) (v := .ref aMa_bases) (C := R_Ma) (T := F_Ma) (N := 17) hx hb hts i_Ma hown hK hP_17 5 rfl rfl 12 (by decide) (hts _ m_173) (fun _ h9 => h9) rfl d_Ma_enter_49 ?_
      refine lv_aload_n hx hb d_Ma_enter_52 rfl (lv_at hl 1 rfl) ?_
      refine va_get (D := G) (ci := 6) (v := .int (iI zAf.depth)) (C := R_Ma) (T := F_Ma) (N := 17) hx hb hts i_Ma hown hK hP_17 5 rfl rfl 14 (by decide) (hts _ m_175) (fun _ h9 => h9) rfl d_Ma_enter_53 ?_
      refine lv_aload_n hx hb d_Ma_enter_56 rfl (lv_at hl 1 rfl) ?_
      refine va_get (D := G) (ci := 6) (v := .int (iI zAs.height)) (C := R_Ma) (T := F_Ma) (N := 17) hx hb hts i_Ma hown hK hP_17 5 rfl rfl 10 (by decide) (hts _ m_171) (fun _ h9 => h9) rfl d_Ma_enter_57 ?_
      refine lv_aload_n hx hb d_Ma_enter_60 rfl (lv_at hl 1 rfl) ?_
      refine va_get (D := G) (ci := 6) (v := .ref aWa) (C := R_Ma) (T := F_Ma) (N := 17) hx hb hts i_Ma hown hK hP_17 5 rfl rfl 5 (by decide) (hts _ m_166) (fun _ h9 => h9) rfl d_Ma_enter_61 ?_
      refine lv_iload_n hx hb d_Ma_enter_64 rfl (lv_at hl 2 rfl) ?_
      replace hf := obE hnb hf
      obtain ⟨x_8, e_9, hf⟩ := hf
      refine xx_callV (wc := [(aWa, .inr (7, [.int (iI zW1.typeCount), .ref aWa_parameterCounts, .ref aWa_parameters, .ref aWa_results, .int (iI zW3.functionCount), .ref aWa_functionTypes, .ref aWa_starts, .ref aWa_localCounts, .ref aWa_locals, .int (bI zW5.hasMemory), .long zW5.pagesAtFirst, .long zW5.pagesMost, .int (iI zW6.globalCount), .ref aWa_globalTypes, .ref aWa_globalsChange, .ref aWa_initialTypes, .ref aWa_initialValues, .ref aEx, .ref aCo])), (aWa_parameterCounts, .inl (cI, 20, .inl (fun k9 => iI (zW1.parameterCounts k9)))), (aWa_functionTypes, .inl (cI, 30, .inl (fun k9 => iI (zW3.functionTypes k9))))]) (wr := [(aWa_starts, .inl (cI, 30, .inl (fun k9 => iI (zWj.starts k9)))), (aWa_localCounts, .inl (cI, 30, .inl (fun k9 => iI (zWj.localCounts k9)))), (aMa, .inr (6, [.ref aMa_bytes, .int (bI zAg.written), .int (iI zAg.pages), .ref aMa_globals, .int (iI zMa.steps), .ref aWa, .ref aCo, .int (iI zMa.reason), .int (iI zMa.next), .ref aMa_stack, .int (iI zAs.height), .ref aMa_functions, .ref aMa_bases, .ref aMa_returns, .int (iI zAf.depth), .int (iI zAf.variables), .int (iI zAf.values)])), (aMa_stack, .inl (cJ, 12096, .inr (.inl zAs.stack))), (aMa_functions, .inl (cI, 100, .inl (fun k9 => iI ((updZ zAf.functions zAf.depth.toNat v_f) k9)))), (aMa_bases, .inl (cI, 100, .inl (fun k9 => iI (zAf.bases k9)))), (aMa_returns, .inl (cI, 100, .inl (fun k9 => iI (zAf.returns k9))))]) (As := [.int (iI v_f)]) (rest := [.int (iI zAs.height), .int (iI zAf.depth), .ref aMa_bases]) ⟨hx, hb, hml, hown, hts⟩ xE_st hK hE hA (k_Wa_parameterCountOf l htr G cB cI cJ cZ cG aWa aWa_parameterCounts aWa_parameters aWa_results aWa_functionTypes aWa_starts aWa_localCounts aWa_locals aWa_globalTypes aWa_globalsChange aWa_initialTypes aWa_initialValues aEx aCo zW1 zW3 zW5 zW6 hzW1 hzW3 hzW5 hzW6 v_f hv_f (.ret x_8) e_9 ret_nb _) (xw_V 1 hts m_950 m_833 m_834 m_8 m_835 (by decide +kernel) ⟨(Nat.le_of_ble_eq_true rfl), (Nat.le_of_ble_eq_true rfl)⟩) hP_17 hD_17 hS_17 [0, 1, 2] [3, 4, 5, 6, 7, 8, 9] rfl rfl (by decide +kernel) (by decide +kernel) (by decide +kernel) 0 7 rfl rfl rfl rfl hl.1 rfl (Nat.le_of_ble_eq_true rfl) d_Ma_enter_65 ⟨(Nat.le_of_ble_eq_true rfl), (Nat.le_of_ble_eq_true rfl)⟩ (fun v9 w9 H_18 locs_18 hp hP_18 hD_18 hS_18 => ?_) (fun x9 w9 H9 l9 hp _ _ _ => absurd hp (fun q9 => by obtain ⟨-, ho, -⟩ := q9; cases ho))
      clear hS_17 hD_17 hP_17
      obtain ⟨hx_8, ho, rfl⟩ := hp
      cases ho
      have hQ9 : (fun w9 => va_P G classes w9 H_18 ∧ va_D A w9) [(aWa_starts, .inl (cI, 30, .inl (fun k9 => iI (zWj.starts k9)))), (aWa_localCounts, .inl (cI, 30, .inl (fun k9 => iI (zWj.localCounts k9)))), (aMa, .inr (6, [.ref aMa_bytes, .int (bI zAg.written), .int (iI zAg.pages), .ref aMa_globals, .int (iI zMa.steps), .ref aWa, .ref aCo, .int (iI zMa.reason), .int (iI zMa.next), .ref aMa_stack, .int (iI zAs.height), .ref aMa_functions, .ref aMa_bases, .ref aMa_returns, .int (iI zAf.depth), .int (iI zAf.variables), .int (iI zAf.values)])), (aMa_stack, .inl (cJ, 12096, .inr (.inl zAs.stack))), (aMa_functions, .inl (cI, 100, .inl (fun k9 => iI ((updZ zAf.functions zAf.depth.toNat v_f) k9)))), (aMa_bases, .inl (cI, 100, .inl (fun k9 => iI (zAf.bases k9)))), (aMa_returns, .inl (cI, 100, .inl (fun k9 => iI (zAf.returns k9)))), (aWa, .inr (7, [.int (iI zW1.typeCount), .ref aWa_parameterCounts, .ref aWa_parameters, .ref aWa_results, .int (iI zW3.functionCount), .ref aWa_functionTypes, .ref aWa_starts, .ref aWa_localCounts, .ref aWa_locals, .int (bI zW5.hasMemory), .long zW5.pagesAtFirst, .long zW5.pagesMost, .int (iI zW6.globalCount), .ref aWa_globalTypes, .ref aWa_globalsChange, .ref aWa_initialTypes, .ref aWa_initialValues, .ref aEx, .ref aCo])), (aWa_parameterCounts, .inl (cI, 20, .inl (fun k9 => iI (zW1.parameterCounts k9)))), (aWa_functionTypes, .inl (cI, 30, .inl (fun k9 => iI (zW3.functionTypes k9))))] := ⟨hP_18, hD_18⟩
      clear hP_18 hD_18
      obtain ⟨hP_18, hD_18⟩ := hQ9
      refine lv_isub hx hb d_Ma_enter_68 ?_
      refine lv_topi (fun x9 e9 => ?_)
      obtain rfl : x9 = iI (zAs.height - x_8) := e9.trans (iI_sub _ _)
      replace hf := grd hnb hf
      obtain ⟨g_10, hf⟩ := hf
      replace hf := grd hnb hf
      obtain ⟨g_11, hf⟩ := hf
      refine va_iast hx hb hK hP_18 hD_18 hS_18 5 1 rfl rfl (vp_in_iI hzAf.depth g_11) d_Ma_enter_69 (fun H_19 locs_19 hP_19 hD_19 hS_19 => ?_)
      clear hS_18 hD_18 hP_18
      rw [iI_clamp hzAf.depth, upd_iI] at hP_19 hD_19
      have hQ9 : (fun w9 => va_P G classes w9 H_19 ∧ va_D A w9) [(aWa_starts, .inl (cI, 30, .inl (fun k9 => iI (zWj.starts k9)))), (aWa_localCounts, .inl (cI, 30, .inl (fun k9 => iI (zWj.localCounts k9)))), (aMa, .inr (6, [.ref aMa_bytes, .int (bI zAg.written), .int (iI zAg.pages), .ref aMa_globals, .int (iI zMa.steps), .ref aWa, .ref aCo, .int (iI zMa.reason), .int (iI zMa.next), .ref aMa_stack, .int (iI zAs.height), .ref aMa_functions, .ref aMa_bases, .ref aMa_returns, .int (iI zAf.depth), .int (iI zAf.variables), .int (iI zAf.values)])), (aMa_stack, .inl (cJ, 12096, .inr (.inl zAs.stack))), (aMa_functions, .inl (cI, 100, .inl (fun k9 => iI ((updZ zAf.functions zAf.depth.toNat v_f) k9)))), (aMa_bases, .inl (cI, 100, .inl (fun k9 => iI ((updZ zAf.bases zAf.depth.toNat (zAs.height - x_8)) k9)))), (aMa_returns, .inl (cI, 100, .inl (fun k9 => iI (zAf.returns k9)))), (aWa, .inr (7, [.int (iI zW1.typeCount), .ref aWa_parameterCounts, .ref aWa_parameters, .ref aWa_results, .int (iI zW3.functionCount), .ref aWa_functionTypes, .ref aWa_starts, .ref aWa_localCounts, .ref aWa_locals, .int (bI zW5.hasMemory), .long zW5.pagesAtFirst, .long zW5.pagesMost, .int (iI zW6.globalCount), .ref aWa_globalTypes, .ref aWa_globalsChange, .ref aWa_initialTypes, .ref aWa_initialValues, .ref aEx, .ref aCo])), (aWa_parameterCounts, .inl (cI, 20, .inl (fun k9 => iI (zW1.parameterCounts k9)))), (aWa_functionTypes, .inl (cI, 30, .inl (fun k9 => iI (zW3.functionTypes k9))))] := ⟨hP_19, hD_19⟩
      clear hP_19 hD_19
      obtain ⟨hP_19, hD_19⟩ := hQ9
      refine lv_aload_n hx hb d_Ma_enter_70 rfl (lv_at hl 1 rfl) ?_
      refine va_get (D := G) (ci := 6) (v := .ref aMa_returns) (C := R_Ma) (T := F_Ma) (N := 17) hx hb hts i_Ma hown hK hP_19 2 rfl rfl 13 (by decide) (hts _ m_174) (fun _ h9 => h9) rfl d_Ma_enter_71 ?_
      refine lv_aload_n hx hb d_Ma_enter_74 rfl (lv_at hl 1 rfl) ?_
      refine va_get (D := G) (ci := 6) (v := .int (iI zAf.depth)) (C := R_Ma) (T := F_Ma) (N := 17) hx hb hts i_Ma hown hK hP_19 2 rfl rfl 14 (by decide) (hts _ m_175) (fun _ h9 => h9) rfl d_Ma_enter_75 ?_
      refine lv_aload_n hx hb d_Ma_enter_78 rfl (lv_at hl 1 rfl) ?_
      refine va_get (D := G) (ci := 6) (v := .int (iI zMa.next)) (C := R_Ma) (T := F_Ma) (N := 17) hx hb hts i_Ma hown hK hP_19 2 rfl rfl 8 (by decide) (hts _ m_169) (fun _ h9 => h9) rfl d_Ma_enter_79 ?_
      replace hf := grd hnb hf
      obtain ⟨g_12, hf⟩ := hf
      refine va_iast hx hb hK hP_19 hD_19 hS_19 6 1 rfl rfl (vp_in_iI hzAf.depth g_12) d_Ma_enter_82 (fun H_20 locs_20 hP_20 hD_20 hS_20 => ?_)
      clear hS_19 hD_19 hP_19
      rw [iI_clamp hzAf.depth, upd_iI] at hP_20 hD_20
      have hQ9 : (fun w9 => va_P G classes w9 H_20 ∧ va_D A w9) [(aWa_starts, .inl (cI, 30, .inl (fun k9 => iI (zWj.starts k9)))), (aWa_localCounts, .inl (cI, 30, .inl (fun k9 => iI (zWj.localCounts k9)))), (aMa, .inr (6, [.ref aMa_bytes, .int (bI zAg.written), .int (iI zAg.pages), .ref aMa_globals, .int (iI zMa.steps), .ref aWa, .ref aCo, .int (iI zMa.reason), .int (iI zMa.next), .ref aMa_stack, .int (iI zAs.height), .ref aMa_functions, .ref aMa_bases, .ref aMa_returns, .int (iI zAf.depth), .int (iI zAf.variables), .int (iI zAf.values)])), (aMa_stack, .inl (cJ, 12096, .inr (.inl zAs.stack))), (aMa_functions, .inl (cI, 100, .inl (fun k9 => iI ((updZ zAf.functions zAf.depth.toNat v_f) k9)))), (aMa_bases, .inl (cI, 100, .inl (fun k9 => iI ((updZ zAf.bases zAf.depth.toNat (zAs.height - x_8)) k9)))), (aMa_returns, .inl (cI, 100, .inl (fun k9 => iI ((updZ zAf.returns zAf.depth.toNat zMa.next) k9)))), (aWa, .inr (7, [.int (iI zW1.typeCount), .ref aWa_parameterCounts, .ref aWa_parameters, .ref aWa_results, .int (iI zW3.functionCount), .ref aWa_functionTypes, .ref aWa_starts, .ref aWa_localCounts, .ref aWa_locals, .int (bI zW5.hasMemory), .long zW5.pagesAtFirst, .long zW5.pagesMost, .int (iI zW6.globalCount), .ref aWa_globalTypes, .ref aWa_globalsChange, .ref aWa_initialTypes, .ref aWa_initialValues, .ref aEx, .ref aCo])), (aWa_parameterCounts, .inl (cI, 20, .inl (fun k9 => iI (zW1.parameterCounts k9)))), (aWa_functionTypes, .inl (cI, 30, .inl (fun k9 => iI (zW3.functionTypes k9))))] := ⟨hP_20, hD_20⟩
      clear hP_20 hD_20
      obtain ⟨hP_20, hD_20⟩ := hQ9
      refine lv_aload_n hx hb d_Ma_enter_83 rfl (lv_at hl 1 rfl) ?_
      refine lv_dup hx hb d_Ma_enter_84 rfl ?_
      refine va_get (D := G) (ci := 6) (v := .int (iI zAf.depth)) (C := R_Ma) (T := F_Ma) (N := 17) hx hb hts i_Ma hown hK hP_20 2 rfl rfl 14 (by decide) (hts _ m_175) (fun _ h9 => h9) rfl d_Ma_enter_85 ?_
      refine lv_iconst (v := iI 1) hx hb d_Ma_enter_88 (by decide) ?_
      refine lv_iadd hx hb d_Ma_enter_89 ?_
      refine lv_topi (fun x9 e9 => ?_)
      obtain rfl : x9 = iI (zAf.depth + 1) := e9.trans (iI_add _ _)
      replace hf := grd hnb hf
      obtain ⟨g_13, hf⟩ := hf
      refine va_put (D := G) (ci := 6) (v := .int (iI (zAf.depth + 1))) (ty := .int) (C := R_Ma) (T := F_Ma) (N := 17) hx hb hts i_Ma t_Ma t_Ma_ok n_Ma hown hK hP_20 hD_20 hS_20 2 rfl rfl 14 (by decide) (hts _ m_175) (fun _ h9 => h9) rfl (by decide +kernel) rfl rfl (Nat.le_of_ble_eq_true rfl) d_Ma_enter_90 (fun H_21 locs_21 hP_21 hD_21 hS_21 => ?_)
      clear hS_20 hD_20 hP_20
      have hQ9 : (fun w9 => va_P G classes w9 H_21 ∧ va_D A w9) [(aWa_starts, .inl (cI, 30, .inl (fun k9 => iI (zWj.starts k9)))), (aWa_localCounts, .inl (cI, 30, .inl (fun k9 => iI (zWj.localCounts k9)))), (aMa, .inr (6, [.ref aMa_bytes, .int (bI zAg.written), .int (iI zAg.pages), .ref aMa_globals, .int (iI zMa.steps), .ref aWa, .ref aCo, .int (iI zMa.reason), .int (iI zMa.next), .ref aMa_stack, .int (iI zAs.height), .ref aMa_functions, .ref aMa_bases, .ref aMa_returns, .int (iI (zAf.depth + 1)), .int (iI zAf.variables), .int (iI zAf.values)])), (aMa_stack, .inl (cJ, 12096, .inr (.inl zAs.stack))), (aMa_functions, .inl (cI, 100, .inl (fun k9 => iI ((updZ zAf.functions zAf.depth.toNat v_f) k9)))), (aMa_bases, .inl (cI, 100, .inl (fun k9 => iI ((updZ zAf.bases zAf.depth.toNat (zAs.height - x_8)) k9)))), (aMa_returns, .inl (cI, 100, .inl (fun k9 => iI ((updZ zAf.returns zAf.depth.toNat zMa.next) k9)))), (aWa, .inr (7, [.int (iI zW1.typeCount), .ref aWa_parameterCounts, .ref aWa_parameters, .ref aWa_results, .int (iI zW3.functionCount), .ref aWa_functionTypes, .ref aWa_starts, .ref aWa_localCounts, .ref aWa_locals, .int (bI zW5.hasMemory), .long zW5.pagesAtFirst, .long zW5.pagesMost, .int (iI zW6.globalCount), .ref aWa_globalTypes, .ref aWa_globalsChange, .ref aWa_initialTypes, .ref aWa_initialValues, .ref aEx, .ref aCo])), (aWa_parameterCounts, .inl (cI, 20, .inl (fun k9 => iI (zW1.parameterCounts k9)))), (aWa_functionTypes, .inl (cI, 30, .inl (fun k9 => iI (zW3.functionTypes k9))))] := ⟨hP_21, hD_21⟩
      clear hP_21 hD_21
      obtain ⟨hP_21, hD_21⟩ := hQ9
      refine lv_iconst (v := iI 0) hx hb d_Ma_enter_93 (by decide) ?_
      refine lv_istore_n (lv' := [(3, .int (iI 0)), (2, .int (iI (zWj.localCounts v_f.toNat))), (0, .ref aMa), (1, .int (iI v_f))]) hx hb d_Ma_enter_94 rfl hl (by decide) rfl (fun ls hl => ?_)
      refine obG hf (fun K_16 hK_16 hf => ?_)
      have hJK_16 : ∀ (y_18 : KMa × KAs × Int), KMa.Ok y_18.1 ∧ KAs.Ok y_18.2.1 ∧ R32 y_18.2.2 → K_16 y_18 = R9 → ∀ (H_21 : Heap) (locs_21 : List Loc), (fun w9 => va_P G classes w9 H_21 → va_D A w9 → va_S A s.heap H_21 locs_21 → ∀ (ls : Array Slot), lv_has ls 4 [(0, .ref aMa), (1, .int (iI v_f)), (2, .int (iI (zWj.localCounts v_f.toNat))), (3, .int (iI y_18.2.2))] → W p l e (headSpec (wx y_Ma_enter b_Ma_enter 4 none) { frames := 1, cells := 0, slots := 0, locals := 22 }).room s m ([.ref aMa, .int (iI v_f)] : List Value).toArray below meth c H_21 locs_21 0 0 (MX below (XQ G classes A (pq_Ma_enter cI cJ aWa aWa_parameterCounts aWa_parameters aWa_results aWa_functionTypes aWa_starts aWa_localCounts aWa_locals aWa_globalTypes aWa_globalsChange aWa_initialTypes aWa_initialValues aEx aCo aMa aMa_bytes aMa_globals aMa_stack aMa_functions aMa_bases aMa_returns zW1 zW3 zWj zW5 zW6 zAg R9)) ([.ref aMa, .int (iI v_f)] : List Value).toArray s 0 0 A) (F0 m 111 ls [])) [(aWa_starts, .inl (cI, 30, .inl (fun k9 => iI (zWj.starts k9)))), (aWa_localCounts, .inl (cI, 30, .inl (fun k9 => iI (zWj.localCounts k9)))), (aMa, .inr (6, [.ref aMa_bytes, .int (bI zAg.written), .int (iI zAg.pages), .ref aMa_globals, .int (iI y_18.1.steps), .ref aWa, .ref aCo, .int (iI y_18.1.reason), .int (iI y_18.1.next), .ref aMa_stack, .int (iI y_18.2.1.height), .ref aMa_functions, .ref aMa_bases, .ref aMa_returns, .int (iI (zAf.depth + 1)), .int (iI zAf.variables), .int (iI zAf.values)])), (aMa_stack, .inl (cJ, 12096, .inr (.inl y_18.2.1.stack))), (aMa_functions, .inl (cI, 100, .inl (fun k9 => iI ((updZ zAf.functions zAf.depth.toNat v_f) k9)))), (aMa_bases, .inl (cI, 100, .inl (fun k9 => iI ((updZ zAf.bases zAf.depth.toNat (zAs.height - x_8)) k9)))), (aMa_returns, .inl (cI, 100, .inl (fun k9 => iI ((updZ zAf.returns zAf.depth.toNat zMa.next) k9)))), (aWa, .inr (7, [.int (iI zW1.typeCount), .ref aWa_parameterCounts, .ref aWa_parameters, .ref aWa_results, .int (iI zW3.functionCount), .ref aWa_functionTypes, .ref aWa_starts, .ref aWa_localCounts, .ref aWa_locals, .int (bI zW5.hasMemory), .long zW5.pagesAtFirst, .long zW5.pagesMost, .int (iI zW6.globalCount), .ref aWa_globalTypes, .ref aWa_globalsChange, .ref aWa_initialTypes, .ref aWa_initialValues, .ref aEx, .ref aCo])), (aWa_parameterCounts, .inl (cI, 20, .inl (fun k9 => iI (zW1.parameterCounts k9)))), (aWa_functionTypes, .inl (cI, 30, .inl (fun k9 => iI (zW3.functionTypes k9))))] := by
        intro y_18 hy_18 hf H_24 locs_24 hP_24 hD_24 hS_24 ls hl
        clear hS_21 hD_21 hP_21
        replace hf := (congrFun hK_16 y_18).symm.trans hf
        clear hK_16
        refine lv_aload_n hx hb d_Ma_enter_111 rfl (lv_at hl 0 rfl) ?_
        refine lv_aload_n hx hb d_Ma_enter_112 rfl (lv_at hl 0 rfl) ?_
        refine va_get (D := G) (ci := 6) (v := .ref aMa_bases) (C := R_Ma) (T := F_Ma) (N := 17) hx hb hts i_Ma hown hK hP_24 2 rfl rfl 12 (by decide) (hts _ m_173) (fun _ h9 => h9) rfl d_Ma_enter_113 ?_
        refine lv_aload_n hx hb d_Ma_enter_116 rfl (lv_at hl 0 rfl) ?_
        refine va_get (D := G) (ci := 6) (v := .int (iI (zAf.depth + 1))) (C := R_Ma) (T := F_Ma) (N := 17) hx hb hts i_Ma hown hK hP_24 2 rfl rfl 14 (by decide) (hts _ m_175) (fun _ h9 => h9) rfl d_Ma_enter_117 ?_
        refine lv_iconst (v := iI 1) hx hb d_Ma_enter_120 (by decide) ?_
        refine lv_isub hx hb d_Ma_enter_121 ?_
        refine lv_topi (fun x9 e9 => ?_)
        obtain rfl : x9 = iI ((zAf.depth + 1) - 1) := e9.trans (iI_sub _ _)
        replace hf := grd hnb hf
        obtain ⟨g_19, hf⟩ := hf
        replace hf := grd hnb hf
        obtain ⟨g_20, hf⟩ := hf
        refine va_iald hx hb hK hP_24 5 1 rfl rfl (vp_in_iI g_19 g_20) d_Ma_enter_122 ?_
        refine W.eq (g2 := F0 m 123 ls [.int (iI ((updZ zAf.bases zAf.depth.toNat (zAs.height - x_8)) ((zAf.depth + 1) - 1).toNat)), .ref aMa]) (by rw [iI_clamp g_19] <;> rfl) ?_
        refine va_put (D := G) (ci := 6) (v := .int (iI ((updZ zAf.bases zAf.depth.toNat (zAs.height - x_8)) ((zAf.depth + 1) - 1).toNat))) (ty := .int) (C := R_Ma) (T := F_Ma) (N := 17) hx hb hts i_Ma t_Ma t_Ma_ok n_Ma hown hK hP_24 hD_24 hS_24 2 rfl rfl 15 (by decide) (hts _ m_176) (fun _ h9 => h9) rfl (by decide +kernel) rfl rfl (Nat.le_of_ble_eq_true rfl) d_Ma_enter_123 (fun H_25 locs_25 hP_25 hD_25 hS_25 => ?_)
        clear hS_24 hD_24 hP_24
        have hQ9 : (fun w9 => va_P G classes w9 H_25 ∧ va_D A w9) [(aWa_starts, .inl (cI, 30, .inl (fun k9 => iI (zWj.starts k9)))), (aWa_localCounts, .inl (cI, 30, .inl (fun k9 => iI (zWj.localCounts k9)))), (aMa, .inr (6, [.ref aMa_bytes, .int (bI zAg.written), .int (iI zAg.pages), .ref aMa_globals, .int (iI y_18.1.steps), .ref aWa, .ref aCo, .int (iI y_18.1.reason), .int (iI y_18.1.next), .ref aMa_stack, .int (iI y_18.2.1.height), .ref aMa_functions, .ref aMa_bases, .ref aMa_returns, .int (iI (zAf.depth + 1)), .int (iI ((updZ zAf.bases zAf.depth.toNat (zAs.height - x_8)) ((zAf.depth + 1) - 1).toNat)), .int (iI zAf.values)])), (aMa_stack, .inl (cJ, 12096, .inr (.inl y_18.2.1.stack))), (aMa_functions, .inl (cI, 100, .inl (fun k9 => iI ((updZ zAf.functions zAf.depth.toNat v_f) k9)))), (aMa_bases, .inl (cI, 100, .inl (fun k9 => iI ((updZ zAf.bases zAf.depth.toNat (zAs.height - x_8)) k9)))), (aMa_returns, .inl (cI, 100, .inl (fun k9 => iI ((updZ zAf.returns zAf.depth.toNat zMa.next) k9)))), (aWa, .inr (7, [.int (iI zW1.typeCount), .ref aWa_parameterCounts, .ref aWa_parameters, .ref aWa_results, .int (iI zW3.functionCount), .ref aWa_functionTypes, .ref aWa_starts, .ref aWa_localCounts, .ref aWa_locals, .int (bI zW5.hasMemory), .long zW5.pagesAtFirst, .long zW5.pagesMost, .int (iI zW6.globalCount), .ref aWa_globalTypes, .ref aWa_globalsChange, .ref aWa_initialTypes, .ref aWa_initialValues, .ref aEx, .ref aCo])), (aWa_parameterCounts, .inl (cI, 20, .inl (fun k9 => iI (zW1.parameterCounts k9)))), (aWa_functionTypes, .inl (cI, 30, .inl (fun k9 => iI (zW3.functionTypes k9))))] := ⟨hP_25, hD_25⟩
        clear hP_25 hD_25
        obtain ⟨hP_25, hD_25⟩ := hQ9
        refine lv_aload_n hx hb d_Ma_enter_126 rfl (lv_at hl 0 rfl) ?_
        refine lv_aload_n hx hb d_Ma_enter_127 rfl (lv_at hl 0 rfl) ?_
        refine va_get (D := G) (ci := 6) (v := .int (iI y_18.2.1.height)) (C := R_Ma) (T := F_Ma) (N := 17) hx hb hts i_Ma hown hK hP_25 2 rfl rfl 10 (by decide) (hts _ m_171) (fun _ h9 => h9) rfl d_Ma_enter_128 ?_
        refine va_put (D := G) (ci := 6) (v := .int (iI y_18.2.1.height)) (ty := .int) (C := R_Ma) (T := F_Ma) (N := 17) hx hb hts i_Ma t_Ma t_Ma_ok n_Ma hown hK hP_25 hD_25 hS_25 2 rfl rfl 16 (by decide) (hts _ m_177) (fun _ h9 => h9) rfl (by decide +kernel) rfl rfl (Nat.le_of_ble_eq_true rfl) d_Ma_enter_131 (fun H_26 locs_26 hP_26 hD_26 hS_26 => ?_)
        clear hS_25 hD_25 hP_25
        have hQ9 : (fun w9 => va_P G classes w9 H_26 ∧ va_D A w9) [(aWa_starts, .inl (cI, 30, .inl (fun k9 => iI (zWj.starts k9)))), (aWa_localCounts, .inl (cI, 30, .inl (fun k9 => iI (zWj.localCounts k9)))), (aMa, .inr (6, [.ref aMa_bytes, .int (bI zAg.written), .int (iI zAg.pages), .ref aMa_globals, .int (iI y_18.1.steps), .ref aWa, .ref aCo, .int (iI y_18.1.reason), .int (iI y_18.1.next), .ref aMa_stack, .int (iI y_18.2.1.height), .ref aMa_functions, .ref aMa_bases, .ref aMa_returns, .int (iI (zAf.depth + 1)), .int (iI ((updZ zAf.bases zAf.depth.toNat (zAs.height - x_8)) ((zAf.depth + 1) - 1).toNat)), .int (iI y_18.2.1.height)])), (aMa_stack, .inl (cJ, 12096, .inr (.inl y_18.2.1.stack))), (aMa_functions, .inl (cI, 100, .inl (fun k9 => iI ((updZ zAf.functions zAf.depth.toNat v_f) k9)))), (aMa_bases, .inl (cI, 100, .inl (fun k9 => iI ((updZ zAf.bases zAf.depth.toNat (zAs.height - x_8)) k9)))), (aMa_returns, .inl (cI, 100, .inl (fun k9 => iI ((updZ zAf.returns zAf.depth.toNat zMa.next) k9)))), (aWa, .inr (7, [.int (iI zW1.typeCount), .ref aWa_parameterCounts, .ref aWa_parameters, .ref aWa_results, .int (iI zW3.functionCount), .ref aWa_functionTypes, .ref aWa_starts, .ref aWa_localCounts, .ref aWa_locals, .int (bI zW5.hasMemory), .long zW5.pagesAtFirst, .long zW5.pagesMost, .int (iI zW6.globalCount), .ref aWa_globalTypes, .ref aWa_globalsChange, .ref aWa_initialTypes, .ref aWa_initialValues, .ref aEx, .ref aCo])), (aWa_parameterCounts, .inl (cI, 20, .inl (fun k9 => iI (zW1.parameterCounts k9)))), (aWa_functionTypes, .inl (cI, 30, .inl (fun k9 => iI (zW3.functionTypes k9))))] := ⟨hP_26, hD_26⟩
        clear hP_26 hD_26
        obtain ⟨hP_26, hD_26⟩ := hQ9
        refine lv_aload_n hx hb d_Ma_enter_134 rfl (lv_at hl 0 rfl) ?_
        refine lv_aload_n hx hb d_Ma_enter_135 rfl (lv_at hl 0 rfl) ?_
        refine va_get (D := G) (ci := 6) (v := .ref aWa) (C := R_Ma) (T := F_Ma) (N := 17) hx hb hts i_Ma hown hK hP_26 2 rfl rfl 5 (by decide) (hts _ m_166) (fun _ h9 => h9) rfl d_Ma_enter_136 ?_
        refine va_get (D := G) (ci := 7) (v := .ref aWa_starts) (C := R_Wa) (T := F_Wa) (N := 19) hx hb hts i_Wa hown hK hP_26 7 rfl rfl 6 (by decide) (hts _ m_334) (fun _ h9 => h9) rfl d_Ma_enter_139 ?_
        refine lv_iload_n hx hb d_Ma_enter_142 rfl (lv_at hl 1 rfl) ?_
        replace hf := grd hnb hf
        obtain ⟨g_21, hf⟩ := hf
        refine va_iald hx hb hK hP_26 0 1 rfl rfl (vp_in_iI hv_f g_21) d_Ma_enter_143 ?_
        refine W.eq (g2 := F0 m 144 ls [.int (iI (zWj.starts v_f.toNat)), .ref aMa]) (by rw [iI_clamp hv_f] <;> rfl) ?_
        refine va_put (D := G) (ci := 6) (v := .int (iI (zWj.starts v_f.toNat))) (ty := .int) (C := R_Ma) (T := F_Ma) (N := 17) hx hb hts i_Ma t_Ma t_Ma_ok n_Ma hown hK hP_26 hD_26 hS_26 2 rfl rfl 8 (by decide) (hts _ m_169) (fun _ h9 => h9) rfl (by decide +kernel) rfl rfl (Nat.le_of_ble_eq_true rfl) d_Ma_enter_144 (fun H_27 locs_27 hP_27 hD_27 hS_27 => ?_)
        clear hS_26 hD_26 hP_26
        have hQ9 : (fun w9 => va_P G classes w9 H_27 ∧ va_D A w9) [(aWa_starts, .inl (cI, 30, .inl (fun k9 => iI (zWj.starts k9)))), (aWa_localCounts, .inl (cI, 30, .inl (fun k9 => iI (zWj.localCounts k9)))), (aMa, .inr (6, [.ref aMa_bytes, .int (bI zAg.written), .int (iI zAg.pages), .ref aMa_globals, .int (iI y_18.1.steps), .ref aWa, .ref aCo, .int (iI y_18.1.reason), .int (iI (zWj.starts v_f.toNat)), .ref aMa_stack, .int (iI y_18.2.1.height), .ref aMa_functions, .ref aMa_bases, .ref aMa_returns, .int (iI (zAf.depth + 1)), .int (iI ((updZ zAf.bases zAf.depth.toNat (zAs.height - x_8)) ((zAf.depth + 1) - 1).toNat)), .int (iI y_18.2.1.height)])), (aMa_stack, .inl (cJ, 12096, .inr (.inl y_18.2.1.stack))), (aMa_functions, .inl (cI, 100, .inl (fun k9 => iI ((updZ zAf.functions zAf.depth.toNat v_f) k9)))), (aMa_bases, .inl (cI, 100, .inl (fun k9 => iI ((updZ zAf.bases zAf.depth.toNat (zAs.height - x_8)) k9)))), (aMa_returns, .inl (cI, 100, .inl (fun k9 => iI ((updZ zAf.returns zAf.depth.toNat zMa.next) k9)))), (aWa, .inr (7, [.int (iI zW1.typeCount), .ref aWa_parameterCounts, .ref aWa_parameters, .ref aWa_results, .int (iI zW3.functionCount), .ref aWa_functionTypes, .ref aWa_starts, .ref aWa_localCounts, .ref aWa_locals, .int (bI zW5.hasMemory), .long zW5.pagesAtFirst, .long zW5.pagesMost, .int (iI zW6.globalCount), .ref aWa_globalTypes, .ref aWa_globalsChange, .ref aWa_initialTypes, .ref aWa_initialValues, .ref aEx, .ref aCo])), (aWa_parameterCounts, .inl (cI, 20, .inl (fun k9 => iI (zW1.parameterCounts k9)))), (aWa_functionTypes, .inl (cI, 30, .inl (fun k9 => iI (zW3.functionTypes k9))))] := ⟨hP_27, hD_27⟩
        clear hP_27 hD_27
        obtain ⟨hP_27, hD_27⟩ := hQ9
        have hP_27 := hP_27.sub (ws' := [(aWa, .inr (7, [.int (iI zW1.typeCount), .ref aWa_parameterCounts, .ref aWa_parameters, .ref aWa_results, .int (iI zW3.functionCount), .ref aWa_functionTypes, .ref aWa_starts, .ref aWa_localCounts, .ref aWa_locals, .int (bI zW5.hasMemory), .long zW5.pagesAtFirst, .long zW5.pagesMost, .int (iI zW6.globalCount), .ref aWa_globalTypes, .ref aWa_globalsChange, .ref aWa_initialTypes, .ref aWa_initialValues, .ref aEx, .ref aCo])), (aWa_parameterCounts, .inl (cI, 20, .inl (fun k9 => iI (zW1.parameterCounts k9)))), (aWa_functionTypes, .inl (cI, 30, .inl (fun k9 => iI (zW3.functionTypes k9)))), (aWa_starts, .inl (cI, 30, .inl (fun k9 => iI (zWj.starts k9)))), (aWa_localCounts, .inl (cI, 30, .inl (fun k9 => iI (zWj.localCounts k9)))), (aMa, .inr (6, [.ref aMa_bytes, .int (bI zAg.written), .int (iI zAg.pages), .ref aMa_globals, .int (iI y_18.1.steps), .ref aWa, .ref aCo, .int (iI y_18.1.reason), .int (iI (zWj.starts v_f.toNat)), .ref aMa_stack, .int (iI y_18.2.1.height), .ref aMa_functions, .ref aMa_bases, .ref aMa_returns, .int (iI (zAf.depth + 1)), .int (iI ((updZ zAf.bases zAf.depth.toNat (zAs.height - x_8)) ((zAf.depth + 1) - 1).toNat)), .int (iI y_18.2.1.height)])), (aMa_stack, .inl (cJ, 12096, .inr (.inl y_18.2.1.stack))), (aMa_functions, .inl (cI, 100, .inl (fun k9 => iI ((updZ zAf.functions zAf.depth.toNat v_f) k9)))), (aMa_bases, .inl (cI, 100, .inl (fun k9 => iI ((updZ zAf.bases zAf.depth.toNat (zAs.height - x_8)) k9)))), (aMa_returns, .inl (cI, 100, .inl (fun k9 => iI ((updZ zAf.returns zAf.depth.toNat zMa.next) k9))))]) [7, 8, 9, 0, 1, 2, 3, 4, 5, 6] rfl
        have hD_27 := hD_27.sub (ws' := [(aWa, .inr (7, [.int (iI zW1.typeCount), .ref aWa_parameterCounts, .ref aWa_parameters, .ref aWa_results, .int (iI zW3.functionCount), .ref aWa_functionTypes, .ref aWa_starts, .ref aWa_localCounts, .ref aWa_locals, .int (bI zW5.hasMemory), .long zW5.pagesAtFirst, .long zW5.pagesMost, .int (iI zW6.globalCount), .ref aWa_globalTypes, .ref aWa_globalsChange, .ref aWa_initialTypes, .ref aWa_initialValues, .ref aEx, .ref aCo])), (aWa_parameterCounts, .inl (cI, 20, .inl (fun k9 => iI (zW1.parameterCounts k9)))), (aWa_functionTypes, .inl (cI, 30, .inl (fun k9 => iI (zW3.functionTypes k9)))), (aWa_starts, .inl (cI, 30, .inl (fun k9 => iI (zWj.starts k9)))), (aWa_localCounts, .inl (cI, 30, .inl (fun k9 => iI (zWj.localCounts k9)))), (aMa, .inr (6, [.ref aMa_bytes, .int (bI zAg.written), .int (iI zAg.pages), .ref aMa_globals, .int (iI y_18.1.steps), .ref aWa, .ref aCo, .int (iI y_18.1.reason), .int (iI (zWj.starts v_f.toNat)), .ref aMa_stack, .int (iI y_18.2.1.height), .ref aMa_functions, .ref aMa_bases, .ref aMa_returns, .int (iI (zAf.depth + 1)), .int (iI ((updZ zAf.bases zAf.depth.toNat (zAs.height - x_8)) ((zAf.depth + 1) - 1).toNat)), .int (iI y_18.2.1.height)])), (aMa_stack, .inl (cJ, 12096, .inr (.inl y_18.2.1.stack))), (aMa_functions, .inl (cI, 100, .inl (fun k9 => iI ((updZ zAf.functions zAf.depth.toNat v_f) k9)))), (aMa_bases, .inl (cI, 100, .inl (fun k9 => iI ((updZ zAf.bases zAf.depth.toNat (zAs.height - x_8)) k9)))), (aMa_returns, .inl (cI, 100, .inl (fun k9 => iI ((updZ zAf.returns zAf.depth.toNat zMa.next) k9))))]) [7, 8, 9, 0, 1, 2, 3, 4, 5, 6] (by decide +kernel) rfl
        exact ex_W (fun _ h => ex_mq h) (W.vret hx hb hr (fun t ht hW => ⟨⟨_, ozr hf ⟨⟨(KMa.Ok.mk hy_18.1.steps hy_18.1.reason (hzWj.starts _) : KMa.Ok (KMa.mk y_18.1.steps y_18.1.reason (zWj.starts v_f.toNat))), hy_18.2.1, (KAf.Ok.mk (updZ_ok hzAf.functions hv_f) (updZ_ok hzAf.bases g_10) (updZ_ok hzAf.returns hzMa.next) g_13 ((updZ_ok hzAf.bases g_10) _) hy_18.2.1.height : KAf.Ok (KAf.mk (updZ zAf.functions zAf.depth.toNat v_f) (updZ zAf.bases zAf.depth.toNat (zAs.height - x_8)) (updZ zAf.returns zAf.depth.toNat zMa.next) (zAf.depth + 1) ((updZ zAf.bases zAf.depth.toNat (zAs.height - x_8)) ((zAf.depth + 1) - 1).toNat) y_18.2.1.height))⟩, rfl, rfl⟩, by rw [ht]; exact hP_27, hD_27⟩, hS_27.F ht⟩) hS_27.2.2 d_Ma_enter_147)
      clear hK_16
      have loop_95 : ∀ (n_14 : Nat) (zMa_22 : KMa) (zAs_23 : KAs) (w_k_24 : Int), KMa.Ok zMa_22 → KAs.Ok zAs_23 → R32 w_k_24 → ∀ (R_25 : Out Empty (KMa × KAs × Int)), L95_Ma_enter fu zWj v_f n_14 zMa_22 zAs_23 w_k_24 = R_25 → obind R_25 K_16 = R9 → ∀ (H_21 : Heap) (locs_21 : List Loc), (fun w9 => va_P G classes w9 H_21 → va_D A w9 → va_S A s.heap H_21 locs_21 → ∀ (ls : Array Slot), lv_has ls 4 [(0, .ref aMa), (1, .int (iI v_f)), (2, .int (iI (zWj.localCounts v_f.toNat))), (3, .int (iI w_k_24))] → W p l e (headSpec (wx y_Ma_enter b_Ma_enter 4 none) { frames := 1, cells := 0, slots := 0, locals := 22 }).room s m ([.ref aMa, .int (iI v_f)] : List Value).toArray below meth c H_21 locs_21 0 0 (MX below (XQ G classes A (pq_Ma_enter cI cJ aWa aWa_parameterCounts aWa_parameters aWa_results aWa_functionTypes aWa_starts aWa_localCounts aWa_locals aWa_globalTypes aWa_globalsChange aWa_initialTypes aWa_initialValues aEx aCo aMa aMa_bytes aMa_globals aMa_stack aMa_functions aMa_bases aMa_returns zW1 zW3 zWj zW5 zW6 zAg R9)) ([.ref aMa, .int (iI v_f)] : List Value).toArray s 0 0 A) (F0 m 95 ls [])) [(aWa_starts, .inl (cI, 30, .inl (fun k9 => iI (zWj.starts k9)))), (aWa_localCounts, .inl (cI, 30, .inl (fun k9 => iI (zWj.localCounts k9)))), (aMa, .inr (6, [.ref aMa_bytes, .int (bI zAg.written), .int (iI zAg.pages), .ref aMa_globals, .int (iI zMa_22.steps), .ref aWa, .ref aCo, .int (iI zMa_22.reason), .int (iI zMa_22.next), .ref aMa_stack, .int (iI zAs_23.height), .ref aMa_functions, .ref aMa_bases, .ref aMa_returns, .int (iI (zAf.depth + 1)), .int (iI zAf.variables), .int (iI zAf.values)])), (aMa_stack, .inl (cJ, 12096, .inr (.inl zAs_23.stack))), (aMa_functions, .inl (cI, 100, .inl (fun k9 => iI ((updZ zAf.functions zAf.depth.toNat v_f) k9)))), (aMa_bases, .inl (cI, 100, .inl (fun k9 => iI ((updZ zAf.bases zAf.depth.toNat (zAs.height - x_8)) k9)))), (aMa_returns, .inl (cI, 100, .inl (fun k9 => iI ((updZ zAf.returns zAf.depth.toNat zMa.next) k9)))), (aWa, .inr (7, [.int (iI zW1.typeCount), .ref aWa_parameterCounts, .ref aWa_parameters, .ref aWa_results, .int (iI zW3.functionCount), .ref aWa_functionTypes, .ref aWa_starts, .ref aWa_localCounts, .ref aWa_locals, .int (bI zW5.hasMemory), .long zW5.pagesAtFirst, .long zW5.pagesMost, .int (iI zW6.globalCount), .ref aWa_globalTypes, .ref aWa_globalsChange, .ref aWa_initialTypes, .ref aWa_initialValues, .ref aEx, .ref aCo])), (aWa_parameterCounts, .inl (cI, 20, .inl (fun k9 => iI (zW1.parameterCounts k9)))), (aWa_functionTypes, .inl (cI, 30, .inl (fun k9 => iI (zW3.functionTypes k9))))] := by
        intro n_14
        induction n_14 with
        | zero => intro zMa_22 zAs_23 w_k_24  hzMa_22 hzAs_23 hw_k_24 R_25 hf hk95; subst hf; exact absurd hk95.symm hnb
        | succ n_14 ih_95 =>
          intro zMa_22 zAs_23 w_k_24  hzMa_22 hzAs_23 hw_k_24 R_25 hf hk95 H_28 locs_28 hP_28 hD_28 hS_28 ls hl
          clear hS_21 hD_21 hP_21
          have hnb : R_25 ≠ .bad := ob_nb hnb hk95
          rw [L95_Ma_enter.eq_2] at hf
          refine lv_iload_n hx hb d_Ma_enter_95 rfl (lv_at hl 3 rfl) ?_
          refine lv_iload_n hx hb d_Ma_enter_96 rfl (lv_at hl 2 rfl) ?_
          refine lv_icmp_ge (tgt := 111) hx hb d_Ma_enter_97 (by decide) (fun c_26 => ?_) (fun c_26 => ?_)
          · have c_26 := ((zv_le (iI_t (hzWj.localCounts _)) (iI_t hw_k_24))).mp c_26
            replace hf := ifp c_26 hf
            exact hJK_16 (zMa_22, zAs_23, w_k_24) ⟨hzMa_22, hzAs_23, hw_k_24⟩ (ob_r hf hk95) _ _ hP_28 hD_28 hS_28 _ (lv_sub hl [0, 1, 2, 3] rfl)
          · have c_26 := (fun q9 => c_26 (((zv_le (iI_t (hzWj.localCounts _)) (iI_t hw_k_24))).mpr q9))
            replace hf := ifn c_26 hf
            refine lv_aload_n hx hb d_Ma_enter_100 rfl (lv_at hl 0 rfl) ?_
            refine lv_lconst (v := 0) hx hb d_Ma_enter_101 (by decide) ?_
            replace hf := obE hnb hf
            obtain ⟨x_27, e_28, hf⟩ := hf
            refine xx_callV (wc := [(aMa, .inr (6, [.ref aMa_bytes, .int (bI zAg.written), .int (iI zAg.pages), .ref aMa_globals, .int (iI zMa_22.steps), .ref aWa, .ref aCo, .int (iI zMa_22.reason), .int (iI zMa_22.next), .ref aMa_stack, .int (iI zAs_23.height), .ref aMa_functions, .ref aMa_bases, .ref aMa_returns, .int (iI (zAf.depth + 1)), .int (iI zAf.variables), .int (iI zAf.values)])), (aMa_stack, .inl (cJ, 12096, .inr (.inl zAs_23.stack)))]) (wr := [(aWa_starts, .inl (cI, 30, .inl (fun k9 => iI (zWj.starts k9)))), (aWa_localCounts, .inl (cI, 30, .inl (fun k9 => iI (zWj.localCounts k9)))), (aMa_functions, .inl (cI, 100, .inl (fun k9 => iI ((updZ zAf.functions zAf.depth.toNat v_f) k9)))), (aMa_bases, .inl (cI, 100, .inl (fun k9 => iI ((updZ zAf.bases zAf.depth.toNat (zAs.height - x_8)) k9)))), (aMa_returns, .inl (cI, 100, .inl (fun k9 => iI ((updZ zAf.returns zAf.depth.toNat zMa.next) k9)))), (aWa, .inr (7, [.int (iI zW1.typeCount), .ref aWa_parameterCounts, .ref aWa_parameters, .ref aWa_results, .int (iI zW3.functionCount), .ref aWa_functionTypes, .ref aWa_starts, .ref aWa_localCounts, .ref aWa_locals, .int (bI zW5.hasMemory), .long zW5.pagesAtFirst, .long zW5.pagesMost, .int (iI zW6.globalCount), .ref aWa_globalTypes, .ref aWa_globalsChange, .ref aWa_initialTypes, .ref aWa_initialValues, .ref aEx, .ref aCo])), (aWa_parameterCounts, .inl (cI, 20, .inl (fun k9 => iI (zW1.parameterCounts k9)))), (aWa_functionTypes, .inl (cI, 30, .inl (fun k9 => iI (zW3.functionTypes k9))))]) (As := [.long 0]) (rest := []) ⟨hx, hb, hml, hown, hts⟩ xE_st hK hE hA (k_Ma_push l htr G cB cI cJ cZ cG aMa aMa_bytes aMa_globals aWa aCo aMa_stack aMa_functions aMa_bases aMa_returns zAg zMa_22 zAs_23 (KAf.mk (updZ zAf.functions zAf.depth.toNat v_f) (updZ zAf.bases zAf.depth.toNat (zAs.height - x_8)) (updZ zAf.returns zAf.depth.toNat zMa.next) (zAf.depth + 1) zAf.variables zAf.values) hzAg hzMa_22 hzAs_23 (KAf.Ok.mk (updZ_ok hzAf.functions hv_f) (updZ_ok hzAf.bases g_10) (updZ_ok hzAf.returns hzMa.next) g_13 hzAf.variables hzAf.values : KAf.Ok (KAf.mk (updZ zAf.functions zAf.depth.toNat v_f) (updZ zAf.bases zAf.depth.toNat (zAs.height - x_8)) (updZ zAf.returns zAf.depth.toNat zMa.next) (zAf.depth + 1) zAf.variables zAf.values)) 0 (.ret x_27) e_28 ret_nb _) (xw_V 1 hts m_952 m_954 ms_Ma_push m_7 m_955 (by decide +kernel) ⟨(Nat.le_of_ble_eq_true rfl), (Nat.le_of_ble_eq_true rfl)⟩) hP_28 hD_28 hS_28 [2, 3] [0, 1, 4, 5, 6, 7, 8, 9] rfl rfl (by decide +kernel) (by decide +kernel) (by decide +kernel) 0 6 rfl rfl rfl rfl hl.1 rfl (Nat.le_of_ble_eq_true rfl) d_Ma_enter_102 ⟨(Nat.le_of_ble_eq_true rfl), (Nat.le_of_ble_eq_true rfl)⟩ (fun v9 w9 H_29 locs_29 hp hP_29 hD_29 hS_29 => ?_) (fun x9 w9 H9 l9 hp _ _ _ => absurd hp (fun q9 => by obtain ⟨-, ho, -⟩ := q9; cases ho))
            clear hS_28 hD_28 hP_28
            obtain ⟨hx_27, ho, rfl⟩ := hp
            cases ho
            have hQ9 : (fun w9 => va_P G classes w9 H_29 ∧ va_D A w9) [(aWa_starts, .inl (cI, 30, .inl (fun k9 => iI (zWj.starts k9)))), (aWa_localCounts, .inl (cI, 30, .inl (fun k9 => iI (zWj.localCounts k9)))), (aMa_functions, .inl (cI, 100, .inl (fun k9 => iI ((updZ zAf.functions zAf.depth.toNat v_f) k9)))), (aMa_bases, .inl (cI, 100, .inl (fun k9 => iI ((updZ zAf.bases zAf.depth.toNat (zAs.height - x_8)) k9)))), (aMa_returns, .inl (cI, 100, .inl (fun k9 => iI ((updZ zAf.returns zAf.depth.toNat zMa.next) k9)))), (aWa, .inr (7, [.int (iI zW1.typeCount), .ref aWa_parameterCounts, .ref aWa_parameters, .ref aWa_results, .int (iI zW3.functionCount), .ref aWa_functionTypes, .ref aWa_starts, .ref aWa_localCounts, .ref aWa_locals, .int (bI zW5.hasMemory), .long zW5.pagesAtFirst, .long zW5.pagesMost, .int (iI zW6.globalCount), .ref aWa_globalTypes, .ref aWa_globalsChange, .ref aWa_initialTypes, .ref aWa_initialValues, .ref aEx, .ref aCo])), (aWa_parameterCounts, .inl (cI, 20, .inl (fun k9 => iI (zW1.parameterCounts k9)))), (aWa_functionTypes, .inl (cI, 30, .inl (fun k9 => iI (zW3.functionTypes k9)))), (aMa, .inr (6, [.ref aMa_bytes, .int (bI zAg.written), .int (iI zAg.pages), .ref aMa_globals, .int (iI x_27.1.steps), .ref aWa, .ref aCo, .int (iI x_27.1.reason), .int (iI x_27.1.next), .ref aMa_stack, .int (iI x_27.2.height), .ref aMa_functions, .ref aMa_bases, .ref aMa_returns, .int (iI (zAf.depth + 1)), .int (iI zAf.variables), .int (iI zAf.values)])), (aMa_stack, .inl (cJ, 12096, .inr (.inl x_27.2.stack)))] := ⟨hP_29, hD_29⟩
            clear hP_29 hD_29
            obtain ⟨hP_29, hD_29⟩ := hQ9
            replace hf := grd hnb hf
            obtain ⟨g_29, hf⟩ := hf
            refine lv_iinc (v := iI (w_k_24 + 1)) (lv' := [(3, .int (iI (w_k_24 + 1))), (0, .ref aMa), (1, .int (iI v_f)), (2, .int (iI (zWj.localCounts v_f.toNat)))]) hx hb d_Ma_enter_105 hl (k := 3) rfl (iI_add _ 1) (by decide) rfl (fun ls hl => ?_)
            refine lv_goto (tgt := 95) hx hb d_Ma_enter_108 (by decide) ?_
            exact ih_95 x_27.1 x_27.2 (w_k_24 + 1) hx_27.1 hx_27.2 g_29 _ hf hk95 _ _ (hP_29.sub [0, 1, 8, 9, 2, 3, 4, 5, 6, 7] rfl) (hD_29.sub [0, 1, 8, 9, 2, 3, 4, 5, 6, 7] (by decide +kernel) rfl) hS_29 _ (lv_sub hl [1, 2, 3, 0] rfl)
      exact loop_95 fu zMa zAs 0 hzMa hzAs (show R32 (0) by decide) _ rfl hf _ _ hP_21 hD_21 hS_21 _ (lv_sub hl [2, 3, 1, 0] rfl)
    · have c_6 := (fun q9 => c_6 (((zv_le (iI_t g_5) (iI_t (show R32 (12096) by decide)))).mpr q9))
      replace hf := ifn c_6 hf
      exact hJK_3 () trivial hf _ _ hP hD hS _ (lv_sub hl [1, 2, 0] rfl)
set_option maxRecDepth 100000 in
abbrev pq_Ma_leave (cI cJ : ClassId) (aWa : Nat) (aWa_parameterCounts : Nat) (aWa_parameters : Nat) (aWa_results : Nat) (aWa_functionTypes : Nat) (aWa_starts : Nat) (aWa_localCounts : Nat) (aWa_locals : Nat) (aWa_globalTypes : Nat) (aWa_globalsChange : Nat) (aWa_initialTypes : Nat) (aWa_initialValues : Nat) (aEx : Nat) (aCo : Nat) (aMa : Nat) (aMa_bytes : Nat) (aMa_globals : Nat) (aMa_stack : Nat) (aMa_functions : Nat) (aMa_bases : Nat) (aMa_returns : Nat) (zW1 : KW1) (zW3 : KW3) (zWj : KWj) (zW5 : KW5) (zW6 : KW6) (zAg : KAg) (R9 : Out Empty (KMa × KAs × KAf)) := (fun (o : Outcome) (w1 : va_W) => ozp R9 (fun x9 => (KMa.Ok x9.1 ∧ KAs.Ok x9.2.1 ∧ KAf.Ok x9.2.2) ∧ o = .returned none ∧ w1 = [(aWa, .inr (7, [.int (iI zW1.typeCount), .ref aWa_parameterCounts, .ref aWa_parameters, .ref aWa_results, .int (iI zW3.functionCount), .ref aWa_functionTypes, .ref aWa_starts, .ref aWa_localCounts, .ref aWa_locals, .int (bI zW5.hasMemory), .long zW5.pagesAtFirst, .long zW5.pagesMost, .int (iI zW6.globalCount), .ref aWa_globalTypes, .ref aWa_globalsChange, .ref aWa_initialTypes, .ref aWa_initialValues, .ref aEx, .ref aCo])), (aWa_parameterCounts, .inl (cI, 20, .inl (fun k9 => iI (zW1.parameterCounts k9)))), (aWa_results, .inl (cI, 20, .inl (fun k9 => iI (zW1.results k9)))), (aWa_functionTypes, .inl (cI, 30, .inl (fun k9 => iI (zW3.functionTypes k9)))), (aWa_localCounts, .inl (cI, 30, .inl (fun k9 => iI (zWj.localCounts k9)))), (aMa, .inr (6, [.ref aMa_bytes, .int (bI zAg.written), .int (iI zAg.pages), .ref aMa_globals, .int (iI x9.1.steps), .ref aWa, .ref aCo, .int (iI x9.1.reason), .int (iI x9.1.next), .ref aMa_stack, .int (iI x9.2.1.height), .ref aMa_functions, .ref aMa_bases, .ref aMa_returns, .int (iI x9.2.2.depth), .int (iI x9.2.2.variables), .int (iI x9.2.2.values)])), (aMa_stack, .inl (cJ, 12096, .inr (.inl x9.2.1.stack))), (aMa_functions, .inl (cI, 100, .inl (fun k9 => iI (x9.2.2.functions k9)))), (aMa_bases, .inl (cI, 100, .inl (fun k9 => iI (x9.2.2.bases k9)))), (aMa_returns, .inl (cI, 100, .inl (fun k9 => iI (x9.2.2.returns k9))))]) (fun _ => False))
set_option maxHeartbeats 8000000 in
set_option maxRecDepth 100000 in
theorem k_Ma_leave (l : Launch) (htr : l.stackTraces = false) (G : va_G) (cB cI cJ cZ cG : ClassId) (aWa : Nat) (aWa_parameterCounts : Nat) (aWa_parameters : Nat) (aWa_results : Nat) (aWa_functionTypes : Nat) (aWa_starts : Nat) (aWa_localCounts : Nat) (aWa_locals : Nat) (aWa_globalTypes : Nat) (aWa_globalsChange : Nat) (aWa_initialTypes : Nat) (aWa_initialValues : Nat) (aEx : Nat) (aCo : Nat) (aMa : Nat) (aMa_bytes : Nat) (aMa_globals : Nat) (aMa_stack : Nat) (aMa_functions : Nat) (aMa_bases : Nat) (aMa_returns : Nat) (zW1 : KW1) (zW3 : KW3) (zWj : KWj) (zW5 : KW5) (zW6 : KW6) (zAg : KAg) (zMa : KMa) (zAs : KAs) (zAf : KAf) (hzW1 : KW1.Ok zW1) (hzW3 : KW3.Ok zW3) (hzWj : KWj.Ok zWj) (hzW5 : KW5.Ok zW5) (hzW6 : KW6.Ok zW6) (hzAg : KAg.Ok zAg) (hzMa : KMa.Ok zMa) (hzAs : KAs.Ok zAs) (hzAf : KAf.Ok zAf) (R9 : Out Empty (KMa × KAs × KAf)) (hf : f_Ma_leave zW1 zW3 zWj zMa zAs zAf = R9) (hnb : R9 ≠ .bad) (sz : Nat) : MetX l y_Ma_leave (wx y_Ma_leave b_Ma_leave 2 none) { frames := 2, cells := 0, slots := 0, locals := 46 } (XP G classes (xtys cB cI cJ cZ cG) xE [.ref aMa] [(aWa, .inr (7, [.int (iI zW1.typeCount), .ref aWa_parameterCounts, .ref aWa_parameters, .ref aWa_results, .int (iI zW3.functionCount), .ref aWa_functionTypes, .ref aWa_starts, .ref aWa_localCounts, .ref aWa_locals, .int (bI zW5.hasMemory), .long zW5.pagesAtFirst, .long zW5.pagesMost, .int (iI zW6.globalCount), .ref aWa_globalTypes, .ref aWa_globalsChange, .ref aWa_initialTypes, .ref aWa_initialValues, .ref aEx, .ref aCo])), (aWa_parameterCounts, .inl (cI, 20, .inl (fun k9 => iI (zW1.parameterCounts k9)))), (aWa_results, .inl (cI, 20, .inl (fun k9 => iI (zW1.results k9)))), (aWa_functionTypes, .inl (cI, 30, .inl (fun k9 => iI (zW3.functionTypes k9)))), (aWa_localCounts, .inl (cI, 30, .inl (fun k9 => iI (zWj.localCounts k9)))), (aMa, .inr (6, [.ref aMa_bytes, .int (bI zAg.written), .int (iI zAg.pages), .ref aMa_globals, .int (iI zMa.steps), .ref aWa, .ref aCo, .int (iI zMa.reason), .int (iI zMa.next), .ref aMa_stack, .int (iI zAs.height), .ref aMa_functions, .ref aMa_bases, .ref aMa_returns, .int (iI zAf.depth), .int (iI zAf.variables), .int (iI zAf.values)])), (aMa_stack, .inl (cJ, 12096, .inr (.inl zAs.stack))), (aMa_functions, .inl (cI, 100, .inl (fun k9 => iI (zAf.functions k9)))), (aMa_bases, .inl (cI, 100, .inl (fun k9 => iI (zAf.bases k9)))), (aMa_returns, .inl (cI, 100, .inl (fun k9 => iI (zAf.returns k9))))] sz) (XQ G classes (va_A [(aWa, .inr (7, [.int (iI zW1.typeCount), .ref aWa_parameterCounts, .ref aWa_parameters, .ref aWa_results, .int (iI zW3.functionCount), .ref aWa_functionTypes, .ref aWa_starts, .ref aWa_localCounts, .ref aWa_locals, .int (bI zW5.hasMemory), .long zW5.pagesAtFirst, .long zW5.pagesMost, .int (iI zW6.globalCount), .ref aWa_globalTypes, .ref aWa_globalsChange, .ref aWa_initialTypes, .ref aWa_initialValues, .ref aEx, .ref aCo])), (aWa_parameterCounts, .inl (cI, 20, .inl (fun k9 => iI (zW1.parameterCounts k9)))), (aWa_results, .inl (cI, 20, .inl (fun k9 => iI (zW1.results k9)))), (aWa_functionTypes, .inl (cI, 30, .inl (fun k9 => iI (zW3.functionTypes k9)))), (aWa_localCounts, .inl (cI, 30, .inl (fun k9 => iI (zWj.localCounts k9)))), (aMa, .inr (6, [.ref aMa_bytes, .int (bI zAg.written), .int (iI zAg.pages), .ref aMa_globals, .int (iI zMa.steps), .ref aWa, .ref aCo, .int (iI zMa.reason), .int (iI zMa.next), .ref aMa_stack, .int (iI zAs.height), .ref aMa_functions, .ref aMa_bases, .ref aMa_returns, .int (iI zAf.depth), .int (iI zAf.variables), .int (iI zAf.values)])), (aMa_stack, .inl (cJ, 12096, .inr (.inl zAs.stack))), (aMa_functions, .inl (cI, 100, .inl (fun k9 => iI (zAf.functions k9)))), (aMa_bases, .inl (cI, 100, .inl (fun k9 => iI (zAf.bases k9)))), (aMa_returns, .inl (cI, 100, .inl (fun k9 => iI (zAf.returns k9))))] sz) (fun o w1 => ozp R9 (fun x9 => (KMa.Ok x9.1 ∧ KAs.Ok x9.2.1 ∧ KAf.Ok x9.2.2) ∧ o = .returned none ∧ w1 = [(aWa, .inr (7, [.int (iI zW1.typeCount), .ref aWa_parameterCounts, .ref aWa_parameters, .ref aWa_results, .int (iI zW3.functionCount), .ref aWa_functionTypes, .ref aWa_starts, .ref aWa_localCounts, .ref aWa_locals, .int (bI zW5.hasMemory), .long zW5.pagesAtFirst, .long zW5.pagesMost, .int (iI zW6.globalCount), .ref aWa_globalTypes, .ref aWa_globalsChange, .ref aWa_initialTypes, .ref aWa_initialValues, .ref aEx, .ref aCo])), (aWa_parameterCounts, .inl (cI, 20, .inl (fun k9 => iI (zW1.parameterCounts k9)))), (aWa_results, .inl (cI, 20, .inl (fun k9 => iI (zW1.results k9)))), (aWa_functionTypes, .inl (cI, 30, .inl (fun k9 => iI (zW3.functionTypes k9)))), (aWa_localCounts, .inl (cI, 30, .inl (fun k9 => iI (zWj.localCounts k9)))), (aMa, .inr (6, [.ref aMa_bytes, .int (bI zAg.written), .int (iI zAg.pages), .ref aMa_globals, .int (iI x9.1.steps), .ref aWa, .ref aCo, .int (iI x9.1.reason), .int (iI x9.1.next), .ref aMa_stack, .int (iI x9.2.1.height), .ref aMa_functions, .ref aMa_bases, .ref aMa_returns, .int (iI x9.2.2.depth), .int (iI x9.2.2.variables), .int (iI x9.2.2.values)])), (aMa_stack, .inl (cJ, 12096, .inr (.inl x9.2.1.stack))), (aMa_functions, .inl (cI, 100, .inl (fun k9 => iI (x9.2.2.functions k9)))), (aMa_bases, .inl (cI, 100, .inl (fun k9 => iI (x9.2.2.bases k9)))), (aMa_returns, .inl (cI, 100, .inl (fun k9 => iI (x9.2.2.returns k9))))]) (fun _ => False))) 0 0 (va_A [(aWa, .inr (7, [.int (iI zW1.typeCount), .ref aWa_parameterCounts, .ref aWa_parameters, .ref aWa_results, .int (iI zW3.functionCount), .ref aWa_functionTypes, .ref aWa_starts, .ref aWa_localCounts, .ref aWa_locals, .int (bI zW5.hasMemory), .long zW5.pagesAtFirst, .long zW5.pagesMost, .int (iI zW6.globalCount), .ref aWa_globalTypes, .ref aWa_globalsChange, .ref aWa_initialTypes, .ref aWa_initialValues, .ref aEx, .ref aCo])), (aWa_parameterCounts, .inl (cI, 20, .inl (fun k9 => iI (zW1.parameterCounts k9)))), (aWa_results, .inl (cI, 20, .inl (fun k9 => iI (zW1.results k9)))), (aWa_functionTypes, .inl (cI, 30, .inl (fun k9 => iI (zW3.functionTypes k9)))), (aWa_localCounts, .inl (cI, 30, .inl (fun k9 => iI (zWj.localCounts k9)))), (aMa, .inr (6, [.ref aMa_bytes, .int (bI zAg.written), .int (iI zAg.pages), .ref aMa_globals, .int (iI zMa.steps), .ref aWa, .ref aCo, .int (iI zMa.reason), .int (iI zMa.next), .ref aMa_stack, .int (iI zAs.height), .ref aMa_functions, .ref aMa_bases, .ref aMa_returns, .int (iI zAf.depth), .int (iI zAf.variables), .int (iI zAf.values)])), (aMa_stack, .inl (cJ, 12096, .inr (.inl zAs.stack))), (aMa_functions, .inl (cI, 100, .inl (fun k9 => iI (zAf.functions k9)))), (aMa_bases, .inl (cI, 100, .inl (fun k9 => iI (zAf.bases k9)))), (aMa_returns, .inl (cI, 100, .inl (fun k9 => iI (zAf.returns k9))))] sz) := by
  refine ex_ofW (cc := b_Ma_leave) (maxL := 2) (ret := none) (by decide) rfl ?_
  intro p e s m args below meth c s₁ B hml hno hv
  obtain ⟨rfl, hsz, hP, hK, hD0, hE⟩ := hv
  have hx := B.exec
  have hb := B.bytes
  have hr := B.returns
  have hts : ∀ w ∈ lw_good, w.before _ s = true := fun w h => atoms_spec (ws := wx y_Ma_leave b_Ma_leave 2 none) B.pre w (List.mem_cons_of_mem _ h)
  have hown : s.vm.findClass R_Ma = some m.cls := findClass_of_methodNamed B.named
  have hlocks := B.notSynchronized
  subst hsz
  have hNS := xx_nostat hP
  have hD := hD0.self (sz := s.heap.size)
  generalize hAe : va_A [(aWa, .inr (7, [.int (iI zW1.typeCount), .ref aWa_parameterCounts, .ref aWa_parameters, .ref aWa_results, .int (iI zW3.functionCount), .ref aWa_functionTypes, .ref aWa_starts, .ref aWa_localCounts, .ref aWa_locals, .int (bI zW5.hasMemory), .long zW5.pagesAtFirst, .long zW5.pagesMost, .int (iI zW6.globalCount), .ref aWa_globalTypes, .ref aWa_globalsChange, .ref aWa_initialTypes, .ref aWa_initialValues, .ref aEx, .ref aCo])), (aWa_parameterCounts, .inl (cI, 20, .inl (fun k9 => iI (zW1.parameterCounts k9)))), (aWa_results, .inl (cI, 20, .inl (fun k9 => iI (zW1.results k9)))), (aWa_functionTypes, .inl (cI, 30, .inl (fun k9 => iI (zW3.functionTypes k9)))), (aWa_localCounts, .inl (cI, 30, .inl (fun k9 => iI (zWj.localCounts k9)))), (aMa, .inr (6, [.ref aMa_bytes, .int (bI zAg.written), .int (iI zAg.pages), .ref aMa_globals, .int (iI zMa.steps), .ref aWa, .ref aCo, .int (iI zMa.reason), .int (iI zMa.next), .ref aMa_stack, .int (iI zAs.height), .ref aMa_functions, .ref aMa_bases, .ref aMa_returns, .int (iI zAf.depth), .int (iI zAf.variables), .int (iI zAf.values)])), (aMa_stack, .inl (cJ, 12096, .inr (.inl zAs.stack))), (aMa_functions, .inl (cI, 100, .inl (fun k9 => iI (zAf.functions k9)))), (aMa_bases, .inl (cI, 100, .inl (fun k9 => iI (zAf.bases k9)))), (aMa_returns, .inl (cI, 100, .inl (fun k9 => iI (zAf.returns k9))))] s.heap.size = A at hD hE hNS ⊢
  have hA : ∀ q : Nat, s.heap.size ≤ q → A q := fun q h => by rw [← hAe]; exact Or.inr h
  have hS : va_S A s.heap s.heap [] := va_S.rf
  have hl := lv_entry ([.ref aMa]) (n := 2) (Nat.le_of_ble_eq_true rfl)
  rw [lg_entry_eq]
  generalize (lg_sl ([.ref aMa]) ++ List.replicate (2 - (lg_sl ([.ref aMa])).length) Slot.unset).toArray = ls at hl ⊢
  have hl : lv_has ls 2 [(0, .ref aMa)] := hl
  unfold f_Ma_leave at hf
  refine lv_aload_n hx hb d_Ma_leave_0 rfl (lv_at hl 0 rfl) ?_
  refine lv_dup hx hb d_Ma_leave_1 rfl ?_
  refine va_get (D := G) (ci := 6) (v := .int (iI zAf.depth)) (C := R_Ma) (T := F_Ma) (N := 17) hx hb hts i_Ma hown hK hP 5 rfl rfl 14 (by decide) (hts _ m_175) (fun _ h9 => h9) rfl d_Ma_leave_2 ?_
  refine lv_iconst (v := iI 1) hx hb d_Ma_leave_5 (by decide) ?_
  refine lv_isub hx hb d_Ma_leave_6 ?_
  refine lv_topi (fun x9 e9 => ?_)
  obtain rfl : x9 = iI (zAf.depth - 1) := e9.trans (iI_sub _ _)
  replace hf := grd hnb hf
  obtain ⟨g_1, hf⟩ := hf
  refine va_put (D := G) (ci := 6) (v := .int (iI (zAf.depth - 1))) (ty := .int) (C := R_Ma) (T := F_Ma) (N := 17) hx hb hts i_Ma t_Ma t_Ma_ok n_Ma hown hK hP hD hS 5 rfl rfl 14 (by decide) (hts _ m_175) (fun _ h9 => h9) rfl (by decide +kernel) rfl rfl (Nat.le_of_ble_eq_true rfl) d_Ma_leave_7 (fun H_1 locs_1 hP_1 hD_1 hS_1 => ?_)
  clear hS hD hP
  have hQ9 : (fun w9 => va_P G classes w9 H_1 ∧ va_D A w9) [(aWa, .inr (7, [.int (iI zW1.typeCount), .ref aWa_parameterCounts, .ref aWa_parameters, .ref aWa_results, .int (iI zW3.functionCount), .ref aWa_functionTypes, .ref aWa_starts, .ref aWa_localCounts, .ref aWa_locals, .int (bI zW5.hasMemory), .long zW5.pagesAtFirst, .long zW5.pagesMost, .int (iI zW6.globalCount), .ref aWa_globalTypes, .ref aWa_globalsChange, .ref aWa_initialTypes, .ref aWa_initialValues, .ref aEx, .ref aCo])), (aWa_parameterCounts, .inl (cI, 20, .inl (fun k9 => iI (zW1.parameterCounts k9)))), (aWa_results, .inl (cI, 20, .inl (fun k9 => iI (zW1.results k9)))), (aWa_functionTypes, .inl (cI, 30, .inl (fun k9 => iI (zW3.functionTypes k9)))), (aWa_localCounts, .inl (cI, 30, .inl (fun k9 => iI (zWj.localCounts k9)))), (aMa, .inr (6, [.ref aMa_bytes, .int (bI zAg.written), .int (iI zAg.pages), .ref aMa_globals, .int (iI zMa.steps), .ref aWa, .ref aCo, .int (iI zMa.reason), .int (iI zMa.next), .ref aMa_stack, .int (iI zAs.height), .ref aMa_functions, .ref aMa_bases, .ref aMa_returns, .int (iI (zAf.depth - 1)), .int (iI zAf.variables), .int (iI zAf.values)])), (aMa_stack, .inl (cJ, 12096, .inr (.inl zAs.stack))), (aMa_functions, .inl (cI, 100, .inl (fun k9 => iI (zAf.functions k9)))), (aMa_bases, .inl (cI, 100, .inl (fun k9 => iI (zAf.bases k9)))), (aMa_returns, .inl (cI, 100, .inl (fun k9 => iI (zAf.returns k9))))] := ⟨hP_1, hD_1⟩
  clear hP_1 hD_1
  obtain ⟨hP_1, hD_1⟩ := hQ9
  refine lv_aload_n hx hb d_Ma_leave_10 rfl (lv_at hl 0 rfl) ?_
  refine lv_aload_n hx hb d_Ma_leave_11 rfl (lv_at hl 0 rfl) ?_
  refine va_get (D := G) (ci := 6) (v := .int (iI zAf.variables)) (C := R_Ma) (T := F_Ma) (N := 17) hx hb hts i_Ma hown hK hP_1 5 rfl rfl 15 (by decide) (hts _ m_176) (fun _ h9 => h9) rfl d_Ma_leave_12 ?_
  refine lv_aload_n hx hb d_Ma_leave_15 rfl (lv_at hl 0 rfl) ?_
  refine va_get (D := G) (ci := 6) (v := .ref aWa) (C := R_Ma) (T := F_Ma) (N := 17) hx hb hts i_Ma hown hK hP_1 5 rfl rfl 5 (by decide) (hts _ m_166) (fun _ h9 => h9) rfl d_Ma_leave_16 ?_
  refine lv_aload_n hx hb d_Ma_leave_19 rfl (lv_at hl 0 rfl) ?_
  refine va_get (D := G) (ci := 6) (v := .ref aMa_functions) (C := R_Ma) (T := F_Ma) (N := 17) hx hb hts i_Ma hown hK hP_1 5 rfl rfl 11 (by decide) (hts _ m_172) (fun _ h9 => h9) rfl d_Ma_leave_20 ?_
  refine lv_aload_n hx hb d_Ma_leave_23 rfl (lv_at hl 0 rfl) ?_
  refine va_get (D := G) (ci := 6) (v := .int (iI (zAf.depth - 1))) (C := R_Ma) (T := F_Ma) (N := 17) hx hb hts i_Ma hown hK hP_1 5 rfl rfl 14 (by decide) (hts _ m_175) (fun _ h9 => h9) rfl d_Ma_leave_24 ?_
  replace hf := grd hnb hf
  obtain ⟨g_2, hf⟩ := hf
  refine va_iald hx hb hK hP_1 7 1 rfl rfl (vp_in_iI g_1 g_2) d_Ma_leave_27 ?_
  refine W.eq (g2 := F0 m 28 ls [.int (iI (zAf.functions (zAf.depth - 1).toNat)), .ref aWa, .int (iI zAf.variables), .ref aMa]) (by rw [iI_clamp g_1] <;> rfl) ?_
  replace hf := obE hnb hf
  obtain ⟨x_3, e_4, hf⟩ := hf
  refine xx_callV (wc := [(aWa, .inr (7, [.int (iI zW1.typeCount), .ref aWa_parameterCounts, .ref aWa_parameters, .ref aWa_results, .int (iI zW3.functionCount), .ref aWa_functionTypes, .ref aWa_starts, .ref aWa_localCounts, .ref aWa_locals, .int (bI zW5.hasMemory), .long zW5.pagesAtFirst, .long zW5.pagesMost, .int (iI zW6.globalCount), .ref aWa_globalTypes, .ref aWa_globalsChange, .ref aWa_initialTypes, .ref aWa_initialValues, .ref aEx, .ref aCo])), (aWa_results, .inl (cI, 20, .inl (fun k9 => iI (zW1.results k9)))), (aWa_functionTypes, .inl (cI, 30, .inl (fun k9 => iI (zW3.functionTypes k9))))]) (wr := [(aWa_parameterCounts, .inl (cI, 20, .inl (fun k9 => iI (zW1.parameterCounts k9)))), (aWa_localCounts, .inl (cI, 30, .inl (fun k9 => iI (zWj.localCounts k9)))), (aMa, .inr (6, [.ref aMa_bytes, .int (bI zAg.written), .int (iI zAg.pages), .ref aMa_globals, .int (iI zMa.steps), .ref aWa, .ref aCo, .int (iI zMa.reason), .int (iI zMa.next), .ref aMa_stack, .int (iI zAs.height), .ref aMa_functions, .ref aMa_bases, .ref aMa_returns, .int (iI (zAf.depth - 1)), .int (iI zAf.variables), .int (iI zAf.values)])), (aMa_stack, .inl (cJ, 12096, .inr (.inl zAs.stack))), (aMa_functions, .inl (cI, 100, .inl (fun k9 => iI (zAf.functions k9)))), (aMa_bases, .inl (cI, 100, .inl (fun k9 => iI (zAf.bases k9)))), (aMa_returns, .inl (cI, 100, .inl (fun k9 => iI (zAf.returns k9))))]) (As := [.int (iI (zAf.functions (zAf.depth - 1).toNat))]) (rest := [.int (iI zAf.variables), .ref aMa]) ⟨hx, hb, hml, hown, hts⟩ xE_st hK hE hA (k_Wa_resultOf l htr G cB cI cJ cZ cG aWa aWa_parameterCounts aWa_parameters aWa_results aWa_functionTypes aWa_starts aWa_localCounts aWa_locals aWa_globalTypes aWa_globalsChange aWa_initialTypes aWa_initialValues aEx aCo zW1 zW3 zW5 zW6 hzW1 hzW3 hzW5 hzW6 (zAf.functions (zAf.depth - 1).toNat) (hzAf.functions _) (.ret x_3) e_4 ret_nb _) (xw_V 1 hts m_965 m_785 m_786 m_8 m_787 (by decide +kernel) ⟨(Nat.le_of_ble_eq_true rfl), (Nat.le_of_ble_eq_true rfl)⟩) hP_1 hD_1 hS_1 [0, 2, 3] [1, 4, 5, 6, 7, 8, 9] rfl rfl (by decide +kernel) (by decide +kernel) (by decide +kernel) 0 7 rfl rfl rfl rfl hl.1 rfl (Nat.le_of_ble_eq_true rfl) d_Ma_leave_28 ⟨(Nat.le_of_ble_eq_true rfl), (Nat.le_of_ble_eq_true rfl)⟩ (fun v9 w9 H_2 locs_2 hp hP_2 hD_2 hS_2 => ?_) (fun x9 w9 H9 l9 hp _ _ _ => absurd hp (fun q9 => by obtain ⟨-, ho, -⟩ := q9; cases ho))
  clear hS_1 hD_1 hP_1
  obtain ⟨hx_3, ho, rfl⟩ := hp
  cases ho
  have hQ9 : (fun w9 => va_P G classes w9 H_2 ∧ va_D A w9) [(aWa_parameterCounts, .inl (cI, 20, .inl (fun k9 => iI (zW1.parameterCounts k9)))), (aWa_localCounts, .inl (cI, 30, .inl (fun k9 => iI (zWj.localCounts k9)))), (aMa, .inr (6, [.ref aMa_bytes, .int (bI zAg.written), .int (iI zAg.pages), .ref aMa_globals, .int (iI zMa.steps), .ref aWa, .ref aCo, .int (iI zMa.reason), .int (iI zMa.next), .ref aMa_stack, .int (iI zAs.height), .ref aMa_functions, .ref aMa_bases, .ref aMa_returns, .int (iI (zAf.depth - 1)), .int (iI zAf.variables), .int (iI zAf.values)])), (aMa_stack, .inl (cJ, 12096, .inr (.inl zAs.stack))), (aMa_functions, .inl (cI, 100, .inl (fun k9 => iI (zAf.functions k9)))), (aMa_bases, .inl (cI, 100, .inl (fun k9 => iI (zAf.bases k9)))), (aMa_returns, .inl (cI, 100, .inl (fun k9 => iI (zAf.returns k9)))), (aWa, .inr (7, [.int (iI zW1.typeCount), .ref aWa_parameterCounts, .ref aWa_parameters, .ref aWa_results, .int (iI zW3.functionCount), .ref aWa_functionTypes, .ref aWa_starts, .ref aWa_localCounts, .ref aWa_locals, .int (bI zW5.hasMemory), .long zW5.pagesAtFirst, .long zW5.pagesMost, .int (iI zW6.globalCount), .ref aWa_globalTypes, .ref aWa_globalsChange, .ref aWa_initialTypes, .ref aWa_initialValues, .ref aEx, .ref aCo])), (aWa_results, .inl (cI, 20, .inl (fun k9 => iI (zW1.results k9)))), (aWa_functionTypes, .inl (cI, 30, .inl (fun k9 => iI (zW3.functionTypes k9))))] := ⟨hP_2, hD_2⟩
  clear hP_2 hD_2
  obtain ⟨hP_2, hD_2⟩ := hQ9
  replace hf := obE hnb hf
  obtain ⟨x_5, e_6, hf⟩ := hf
  refine xx_callV (wc := [(aMa, .inr (6, [.ref aMa_bytes, .int (bI zAg.written), .int (iI zAg.pages), .ref aMa_globals, .int (iI zMa.steps), .ref aWa, .ref aCo, .int (iI zMa.reason), .int (iI zMa.next), .ref aMa_stack, .int (iI zAs.height), .ref aMa_functions, .ref aMa_bases, .ref aMa_returns, .int (iI (zAf.depth - 1)), .int (iI zAf.variables), .int (iI zAf.values)])), (aMa_stack, .inl (cJ, 12096, .inr (.inl zAs.stack)))]) (wr := [(aWa_parameterCounts, .inl (cI, 20, .inl (fun k9 => iI (zW1.parameterCounts k9)))), (aWa_localCounts, .inl (cI, 30, .inl (fun k9 => iI (zWj.localCounts k9)))), (aMa_functions, .inl (cI, 100, .inl (fun k9 => iI (zAf.functions k9)))), (aMa_bases, .inl (cI, 100, .inl (fun k9 => iI (zAf.bases k9)))), (aMa_returns, .inl (cI, 100, .inl (fun k9 => iI (zAf.returns k9)))), (aWa, .inr (7, [.int (iI zW1.typeCount), .ref aWa_parameterCounts, .ref aWa_parameters, .ref aWa_results, .int (iI zW3.functionCount), .ref aWa_functionTypes, .ref aWa_starts, .ref aWa_localCounts, .ref aWa_locals, .int (bI zW5.hasMemory), .long zW5.pagesAtFirst, .long zW5.pagesMost, .int (iI zW6.globalCount), .ref aWa_globalTypes, .ref aWa_globalsChange, .ref aWa_initialTypes, .ref aWa_initialValues, .ref aEx, .ref aCo])), (aWa_results, .inl (cI, 20, .inl (fun k9 => iI (zW1.results k9)))), (aWa_functionTypes, .inl (cI, 30, .inl (fun k9 => iI (zW3.functionTypes k9))))]) (As := [.int (iI zAf.variables), .int (iI x_3)]) (rest := []) ⟨hx, hb, hml, hown, hts⟩ xE_st hK hE hA (k_Ma_unwind l htr G cB cI cJ cZ cG aMa aMa_bytes aMa_globals aWa aCo aMa_stack aMa_functions aMa_bases aMa_returns zAg zMa zAs (KAf.mk zAf.functions zAf.bases zAf.returns (zAf.depth - 1) zAf.variables zAf.values) hzAg hzMa hzAs (KAf.Ok.mk hzAf.functions hzAf.bases hzAf.returns g_1 hzAf.variables hzAf.values : KAf.Ok (KAf.mk zAf.functions zAf.bases zAf.returns (zAf.depth - 1) zAf.variables zAf.values)) zAf.variables x_3 hzAf.variables hx_3 (.ret x_5) e_6 ret_nb _) (xw_V 2 hts m_966 m_968 ms_Ma_unwind m_7 m_969 (by decide +kernel) ⟨(Nat.le_of_ble_eq_true rfl), (Nat.le_of_ble_eq_true rfl)⟩) hP_2 hD_2 hS_2 [2, 3] [0, 1, 4, 5, 6, 7, 8, 9] rfl rfl (by decide +kernel) (by decide +kernel) (by decide +kernel) 0 6 rfl rfl rfl rfl hl.1 rfl (Nat.le_of_ble_eq_true rfl) d_Ma_leave_31 ⟨(Nat.le_of_ble_eq_true rfl), (Nat.le_of_ble_eq_true rfl)⟩ (fun v9 w9 H_3 locs_3 hp hP_3 hD_3 hS_3 => ?_) (fun x9 w9 H9 l9 hp _ _ _ => absurd hp (fun q9 => by obtain ⟨-, ho, -⟩ := q9; cases ho))
  clear hS_2 hD_2 hP_2
  obtain ⟨hx_5, ho, rfl⟩ := hp
  cases ho
  have hQ9 : (fun w9 => va_P G classes w9 H_3 ∧ va_D A w9) [(aWa_parameterCounts, .inl (cI, 20, .inl (fun k9 => iI (zW1.parameterCounts k9)))), (aWa_localCounts, .inl (cI, 30, .inl (fun k9 => iI (zWj.localCounts k9)))), (aMa_functions, .inl (cI, 100, .inl (fun k9 => iI (zAf.functions k9)))), (aMa_bases, .inl (cI, 100, .inl (fun k9 => iI (zAf.bases k9)))), (aMa_returns, .inl (cI, 100, .inl (fun k9 => iI (zAf.returns k9)))), (aWa, .inr (7, [.int (iI zW1.typeCount), .ref aWa_parameterCounts, .ref aWa_parameters, .ref aWa_results, .int (iI zW3.functionCount), .ref aWa_functionTypes, .ref aWa_starts, .ref aWa_localCounts, .ref aWa_locals, .int (bI zW5.hasMemory), .long zW5.pagesAtFirst, .long zW5.pagesMost, .int (iI zW6.globalCount), .ref aWa_globalTypes, .ref aWa_globalsChange, .ref aWa_initialTypes, .ref aWa_initialValues, .ref aEx, .ref aCo])), (aWa_results, .inl (cI, 20, .inl (fun k9 => iI (zW1.results k9)))), (aWa_functionTypes, .inl (cI, 30, .inl (fun k9 => iI (zW3.functionTypes k9)))), (aMa, .inr (6, [.ref aMa_bytes, .int (bI zAg.written), .int (iI zAg.pages), .ref aMa_globals, .int (iI x_5.1.steps), .ref aWa, .ref aCo, .int (iI x_5.1.reason), .int (iI x_5.1.next), .ref aMa_stack, .int (iI x_5.2.height), .ref aMa_functions, .ref aMa_bases, .ref aMa_returns, .int (iI (zAf.depth - 1)), .int (iI zAf.variables), .int (iI zAf.values)])), (aMa_stack, .inl (cJ, 12096, .inr (.inl x_5.2.stack)))] := ⟨hP_3, hD_3⟩
  clear hP_3 hD_3
  obtain ⟨hP_3, hD_3⟩ := hQ9
  refine lv_aload_n hx hb d_Ma_leave_34 rfl (lv_at hl 0 rfl) ?_
  refine lv_aload_n hx hb d_Ma_leave_35 rfl (lv_at hl 0 rfl) ?_
  refine va_get (D := G) (ci := 6) (v := .ref aMa_returns) (C := R_Ma) (T := F_Ma) (N := 17) hx hb hts i_Ma hown hK hP_3 8 rfl rfl 13 (by decide) (hts _ m_174) (fun _ h9 => h9) rfl d_Ma_leave_36 ?_
  refine lv_aload_n hx hb d_Ma_leave_39 rfl (lv_at hl 0 rfl) ?_
  refine va_get (D := G) (ci := 6) (v := .int (iI (zAf.depth - 1))) (C := R_Ma) (T := F_Ma) (N := 17) hx hb hts i_Ma hown hK hP_3 8 rfl rfl 14 (by decide) (hts _ m_175) (fun _ h9 => h9) rfl d_Ma_leave_40 ?_
  replace hf := grd hnb hf
  obtain ⟨g_7, hf⟩ := hf
  refine va_iald hx hb hK hP_3 4 1 rfl rfl (vp_in_iI g_1 g_7) d_Ma_leave_43 ?_
  refine W.eq (g2 := F0 m 44 ls [.int (iI (zAf.returns (zAf.depth - 1).toNat)), .ref aMa]) (by rw [iI_clamp g_1] <;> rfl) ?_
  refine va_put (D := G) (ci := 6) (v := .int (iI (zAf.returns (zAf.depth - 1).toNat))) (ty := .int) (C := R_Ma) (T := F_Ma) (N := 17) hx hb hts i_Ma t_Ma t_Ma_ok n_Ma hown hK hP_3 hD_3 hS_3 8 rfl rfl 8 (by decide) (hts _ m_169) (fun _ h9 => h9) rfl (by decide +kernel) rfl rfl (Nat.le_of_ble_eq_true rfl) d_Ma_leave_44 (fun H_4 locs_4 hP_4 hD_4 hS_4 => ?_)
  clear hS_3 hD_3 hP_3
  have hQ9 : (fun w9 => va_P G classes w9 H_4 ∧ va_D A w9) [(aWa_parameterCounts, .inl (cI, 20, .inl (fun k9 => iI (zW1.parameterCounts k9)))), (aWa_localCounts, .inl (cI, 30, .inl (fun k9 => iI (zWj.localCounts k9)))), (aMa_functions, .inl (cI, 100, .inl (fun k9 => iI (zAf.functions k9)))), (aMa_bases, .inl (cI, 100, .inl (fun k9 => iI (zAf.bases k9)))), (aMa_returns, .inl (cI, 100, .inl (fun k9 => iI (zAf.returns k9)))), (aWa, .inr (7, [.int (iI zW1.typeCount), .ref aWa_parameterCounts, .ref aWa_parameters, .ref aWa_results, .int (iI zW3.functionCount), .ref aWa_functionTypes, .ref aWa_starts, .ref aWa_localCounts, .ref aWa_locals, .int (bI zW5.hasMemory), .long zW5.pagesAtFirst, .long zW5.pagesMost, .int (iI zW6.globalCount), .ref aWa_globalTypes, .ref aWa_globalsChange, .ref aWa_initialTypes, .ref aWa_initialValues, .ref aEx, .ref aCo])), (aWa_results, .inl (cI, 20, .inl (fun k9 => iI (zW1.results k9)))), (aWa_functionTypes, .inl (cI, 30, .inl (fun k9 => iI (zW3.functionTypes k9)))), (aMa, .inr (6, [.ref aMa_bytes, .int (bI zAg.written), .int (iI zAg.pages), .ref aMa_globals, .int (iI x_5.1.steps), .ref aWa, .ref aCo, .int (iI x_5.1.reason), .int (iI (zAf.returns (zAf.depth - 1).toNat)), .ref aMa_stack, .int (iI x_5.2.height), .ref aMa_functions, .ref aMa_bases, .ref aMa_returns, .int (iI (zAf.depth - 1)), .int (iI zAf.variables), .int (iI zAf.values)])), (aMa_stack, .inl (cJ, 12096, .inr (.inl x_5.2.stack)))] := ⟨hP_4, hD_4⟩
  clear hP_4 hD_4
  obtain ⟨hP_4, hD_4⟩ := hQ9
  refine lv_aload_n hx hb d_Ma_leave_47 rfl (lv_at hl 0 rfl) ?_
  refine va_get (D := G) (ci := 6) (v := .int (iI (zAf.depth - 1))) (C := R_Ma) (T := F_Ma) (N := 17) hx hb hts i_Ma hown hK hP_4 8 rfl rfl 14 (by decide) (hts _ m_175) (fun _ h9 => h9) rfl d_Ma_leave_48 ?_
  refine jpE hf (fun K_9 hK_9 hf9 => ?_)
  replace hf := hf9
  clear hf9
  have hJK_9 : ∀ (y_8 : KAf), KAf.Ok y_8 → K_9 y_8 = R9 → ∀ (H_4 : Heap) (locs_4 : List Loc), (fun w9 => va_P G classes w9 H_4 → va_D A w9 → va_S A s.heap H_4 locs_4 → ∀ (ls : Array Slot), lv_has ls 2 [(0, .ref aMa)] → W p l e (headSpec (wx y_Ma_leave b_Ma_leave 2 none) { frames := 2, cells := 0, slots := 0, locals := 46 }).room s m ([.ref aMa] : List Value).toArray below meth c H_4 locs_4 0 0 (MX below (XQ G classes A (pq_Ma_leave cI cJ aWa aWa_parameterCounts aWa_parameters aWa_results aWa_functionTypes aWa_starts aWa_localCounts aWa_locals aWa_globalTypes aWa_globalsChange aWa_initialTypes aWa_initialValues aEx aCo aMa aMa_bytes aMa_globals aMa_stack aMa_functions aMa_bases aMa_returns zW1 zW3 zWj zW5 zW6 zAg R9)) ([.ref aMa] : List Value).toArray s 0 0 A) (F0 m 108 ls [])) [(aWa_parameterCounts, .inl (cI, 20, .inl (fun k9 => iI (zW1.parameterCounts k9)))), (aWa_localCounts, .inl (cI, 30, .inl (fun k9 => iI (zWj.localCounts k9)))), (aMa_functions, .inl (cI, 100, .inl (fun k9 => iI (y_8.functions k9)))), (aMa_bases, .inl (cI, 100, .inl (fun k9 => iI (y_8.bases k9)))), (aMa_returns, .inl (cI, 100, .inl (fun k9 => iI (y_8.returns k9)))), (aWa, .inr (7, [.int (iI zW1.typeCount), .ref aWa_parameterCounts, .ref aWa_parameters, .ref aWa_results, .int (iI zW3.functionCount), .ref aWa_functionTypes, .ref aWa_starts, .ref aWa_localCounts, .ref aWa_locals, .int (bI zW5.hasMemory), .long zW5.pagesAtFirst, .long zW5.pagesMost, .int (iI zW6.globalCount), .ref aWa_globalTypes, .ref aWa_globalsChange, .ref aWa_initialTypes, .ref aWa_initialValues, .ref aEx, .ref aCo])), (aWa_results, .inl (cI, 20, .inl (fun k9 => iI (zW1.results k9)))), (aWa_functionTypes, .inl (cI, 30, .inl (fun k9 => iI (zW3.functionTypes k9)))), (aMa, .inr (6, [.ref aMa_bytes, .int (bI zAg.written), .int (iI zAg.pages), .ref aMa_globals, .int (iI x_5.1.steps), .ref aWa, .ref aCo, .int (iI x_5.1.reason), .int (iI (zAf.returns (zAf.depth - 1).toNat)), .ref aMa_stack, .int (iI x_5.2.height), .ref aMa_functions, .ref aMa_bases, .ref aMa_returns, .int (iI y_8.depth), .int (iI y_8.variables), .int (iI y_8.values)])), (aMa_stack, .inl (cJ, 12096, .inr (.inl x_5.2.stack)))] := by
    intro y_8 hy_8 hf H_8 locs_8 hP_8 hD_8 hS_8 ls hl
    clear hS_4 hD_4 hP_4
    replace hf := (congrFun hK_9 y_8).symm.trans hf
    clear hK_9
    have hP_8 := hP_8.sub (ws' := [(aWa, .inr (7, [.int (iI zW1.typeCount), .ref aWa_parameterCounts, .ref aWa_parameters, .ref aWa_results, .int (iI zW3.functionCount), .ref aWa_functionTypes, .ref aWa_starts, .ref aWa_localCounts, .ref aWa_locals, .int (bI zW5.hasMemory), .long zW5.pagesAtFirst, .long zW5.pagesMost, .int (iI zW6.globalCount), .ref aWa_globalTypes, .ref aWa_globalsChange, .ref aWa_initialTypes, .ref aWa_initialValues, .ref aEx, .ref aCo])), (aWa_parameterCounts, .inl (cI, 20, .inl (fun k9 => iI (zW1.parameterCounts k9)))), (aWa_results, .inl (cI, 20, .inl (fun k9 => iI (zW1.results k9)))), (aWa_functionTypes, .inl (cI, 30, .inl (fun k9 => iI (zW3.functionTypes k9)))), (aWa_localCounts, .inl (cI, 30, .inl (fun k9 => iI (zWj.localCounts k9)))), (aMa, .inr (6, [.ref aMa_bytes, .int (bI zAg.written), .int (iI zAg.pages), .ref aMa_globals, .int (iI x_5.1.steps), .ref aWa, .ref aCo, .int (iI x_5.1.reason), .int (iI (zAf.returns (zAf.depth - 1).toNat)), .ref aMa_stack, .int (iI x_5.2.height), .ref aMa_functions, .ref aMa_bases, .ref aMa_returns, .int (iI y_8.depth), .int (iI y_8.variables), .int (iI y_8.values)])), (aMa_stack, .inl (cJ, 12096, .inr (.inl x_5.2.stack))), (aMa_functions, .inl (cI, 100, .inl (fun k9 => iI (y_8.functions k9)))), (aMa_bases, .inl (cI, 100, .inl (fun k9 => iI (y_8.bases k9)))), (aMa_returns, .inl (cI, 100, .inl (fun k9 => iI (y_8.returns k9))))]) [5, 0, 6, 7, 1, 8, 9, 2, 3, 4] rfl
    have hD_8 := hD_8.sub (ws' := [(aWa, .inr (7, [.int (iI zW1.typeCount), .ref aWa_parameterCounts, .ref aWa_parameters, .ref aWa_results, .int (iI zW3.functionCount), .ref aWa_functionTypes, .ref aWa_starts, .ref aWa_localCounts, .ref aWa_locals, .int (bI zW5.hasMemory), .long zW5.pagesAtFirst, .long zW5.pagesMost, .int (iI zW6.globalCount), .ref aWa_globalTypes, .ref aWa_globalsChange, .ref aWa_initialTypes, .ref aWa_initialValues, .ref aEx, .ref aCo])), (aWa_parameterCounts, .inl (cI, 20, .inl (fun k9 => iI (zW1.parameterCounts k9)))), (aWa_results, .inl (cI, 20, .inl (fun k9 => iI (zW1.results k9)))), (aWa_functionTypes, .inl (cI, 30, .inl (fun k9 => iI (zW3.functionTypes k9)))), (aWa_localCounts, .inl (cI, 30, .inl (fun k9 => iI (zWj.localCounts k9)))), (aMa, .inr (6, [.ref aMa_bytes, .int (bI zAg.written), .int (iI zAg.pages), .ref aMa_globals, .int (iI x_5.1.steps), .ref aWa, .ref aCo, .int (iI x_5.1.reason), .int (iI (zAf.returns (zAf.depth - 1).toNat)), .ref aMa_stack, .int (iI x_5.2.height), .ref aMa_functions, .ref aMa_bases, .ref aMa_returns, .int (iI y_8.depth), .int (iI y_8.variables), .int (iI y_8.values)])), (aMa_stack, .inl (cJ, 12096, .inr (.inl x_5.2.stack))), (aMa_functions, .inl (cI, 100, .inl (fun k9 => iI (y_8.functions k9)))), (aMa_bases, .inl (cI, 100, .inl (fun k9 => iI (y_8.bases k9)))), (aMa_returns, .inl (cI, 100, .inl (fun k9 => iI (y_8.returns k9))))]) [5, 0, 6, 7, 1, 8, 9, 2, 3, 4] (by decide +kernel) rfl
    exact ex_W (fun _ h => ex_mq h) (W.vret hx hb hr (fun t ht hW => ⟨⟨_, ozr hf ⟨⟨(KMa.Ok.mk hx_5.1.steps hx_5.1.reason (hzAf.returns _) : KMa.Ok (KMa.mk x_5.1.steps x_5.1.reason (zAf.returns (zAf.depth - 1).toNat))), hx_5.2, hy_8⟩, rfl, rfl⟩, by rw [ht]; exact hP_8, hD_8⟩, hS_8.F ht⟩) hS_8.2.2 d_Ma_leave_108)
  clear hK_9
  refine lv_if_le (tgt := 108) hx hb d_Ma_leave_51 (by decide) (fun c_10 => ?_) (fun c_10 => ?_)
  · have c_10 := ((zv_le (iI_t g_1) zero_v)).mp c_10
    replace hf := ifp c_10 hf
    exact hJK_9 (KAf.mk zAf.functions zAf.bases zAf.returns (zAf.depth - 1) zAf.variables zAf.values) (KAf.Ok.mk hzAf.functions hzAf.bases hzAf.returns g_1 hzAf.variables hzAf.values : KAf.Ok (KAf.mk zAf.functions zAf.bases zAf.returns (zAf.depth - 1) zAf.variables zAf.values)) hf _ _ hP_4 hD_4 hS_4 _ (lv_sub hl [0] rfl)
  · have c_10 := (fun q9 => c_10 (((zv_le (iI_t g_1) zero_v)).mpr q9))
    replace hf := ifn c_10 hf
    refine lv_aload_n hx hb d_Ma_leave_54 rfl (lv_at hl 0 rfl) ?_
    refine va_get (D := G) (ci := 6) (v := .ref aMa_functions) (C := R_Ma) (T := F_Ma) (N := 17) hx hb hts i_Ma hown hK hP_4 8 rfl rfl 11 (by decide) (hts _ m_172) (fun _ h9 => h9) rfl d_Ma_leave_55 ?_
    refine lv_aload_n hx hb d_Ma_leave_58 rfl (lv_at hl 0 rfl) ?_
    refine va_get (D := G) (ci := 6) (v := .int (iI (zAf.depth - 1))) (C := R_Ma) (T := F_Ma) (N := 17) hx hb hts i_Ma hown hK hP_4 8 rfl rfl 14 (by decide) (hts _ m_175) (fun _ h9 => h9) rfl d_Ma_leave_59 ?_
    refine lv_iconst (v := iI 1) hx hb d_Ma_leave_62 (by decide) ?_
    refine lv_isub hx hb d_Ma_leave_63 ?_
    refine lv_topi (fun x9 e9 => ?_)
    obtain rfl : x9 = iI ((zAf.depth - 1) - 1) := e9.trans (iI_sub _ _)
    replace hf := grd hnb hf
    obtain ⟨g_11, hf⟩ := hf
    replace hf := grd hnb hf
    obtain ⟨g_12, hf⟩ := hf
    refine va_iald hx hb hK hP_4 2 1 rfl rfl (vp_in_iI g_11 g_12) d_Ma_leave_64 ?_
    refine W.eq (g2 := F0 m 65 ls [.int (iI (zAf.functions ((zAf.depth - 1) - 1).toNat))]) (by rw [iI_clamp g_11] <;> rfl) ?_
    refine lv_istore_n (lv' := [(1, .int (iI (zAf.functions ((zAf.depth - 1) - 1).toNat))), (0, .ref aMa)]) hx hb d_Ma_leave_65 rfl hl (by decide) rfl (fun ls hl => ?_)
    refine lv_aload_n hx hb d_Ma_leave_66 rfl (lv_at hl 1 rfl) ?_
    refine lv_aload_n hx hb d_Ma_leave_67 rfl (lv_at hl 1 rfl) ?_
    refine va_get (D := G) (ci := 6) (v := .ref aMa_bases) (C := R_Ma) (T := F_Ma) (N := 17) hx hb hts i_Ma hown hK hP_4 8 rfl rfl 12 (by decide) (hts _ m_173) (fun _ h9 => h9) rfl d_Ma_leave_68 ?_
    refine lv_aload_n hx hb d_Ma_leave_71 rfl (lv_at hl 1 rfl) ?_
    refine va_get (D := G) (ci := 6) (v := .int (iI (zAf.depth - 1))) (C := R_Ma) (T := F_Ma) (N := 17) hx hb hts i_Ma hown hK hP_4 8 rfl rfl 14 (by decide) (hts _ m_175) (fun _ h9 => h9) rfl d_Ma_leave_72 ?_
    refine lv_iconst (v := iI 1) hx hb d_Ma_leave_75 (by decide) ?_
    refine lv_isub hx hb d_Ma_leave_76 ?_
    refine lv_topi (fun x9 e9 => ?_)
    obtain rfl : x9 = iI ((zAf.depth - 1) - 1) := e9.trans (iI_sub _ _)
    replace hf := grd hnb hf
    obtain ⟨g_13, hf⟩ := hf
    replace hf := grd hnb hf
    obtain ⟨g_14, hf⟩ := hf
    refine va_iald hx hb hK hP_4 3 1 rfl rfl (vp_in_iI g_13 g_14) d_Ma_leave_77 ?_
    refine W.eq (g2 := F0 m 78 ls [.int (iI (zAf.bases ((zAf.depth - 1) - 1).toNat)), .ref aMa]) (by rw [iI_clamp g_13] <;> rfl) ?_
    refine va_put (D := G) (ci := 6) (v := .int (iI (zAf.bases ((zAf.depth - 1) - 1).toNat))) (ty := .int) (C := R_Ma) (T := F_Ma) (N := 17) hx hb hts i_Ma t_Ma t_Ma_ok n_Ma hown hK hP_4 hD_4 hS_4 8 rfl rfl 15 (by decide) (hts _ m_176) (fun _ h9 => h9) rfl (by decide +kernel) rfl rfl (Nat.le_of_ble_eq_true rfl) d_Ma_leave_78 (fun H_9 locs_9 hP_9 hD_9 hS_9 => ?_)
    clear hS_4 hD_4 hP_4
    have hQ9 : (fun w9 => va_P G classes w9 H_9 ∧ va_D A w9) [(aWa_parameterCounts, .inl (cI, 20, .inl (fun k9 => iI (zW1.parameterCounts k9)))), (aWa_localCounts, .inl (cI, 30, .inl (fun k9 => iI (zWj.localCounts k9)))), (aMa_functions, .inl (cI, 100, .inl (fun k9 => iI (zAf.functions k9)))), (aMa_bases, .inl (cI, 100, .inl (fun k9 => iI (zAf.bases k9)))), (aMa_returns, .inl (cI, 100, .inl (fun k9 => iI (zAf.returns k9)))), (aWa, .inr (7, [.int (iI zW1.typeCount), .ref aWa_parameterCounts, .ref aWa_parameters, .ref aWa_results, .int (iI zW3.functionCount), .ref aWa_functionTypes, .ref aWa_starts, .ref aWa_localCounts, .ref aWa_locals, .int (bI zW5.hasMemory), .long zW5.pagesAtFirst, .long zW5.pagesMost, .int (iI zW6.globalCount), .ref aWa_globalTypes, .ref aWa_globalsChange, .ref aWa_initialTypes, .ref aWa_initialValues, .ref aEx, .ref aCo])), (aWa_results, .inl (cI, 20, .inl (fun k9 => iI (zW1.results k9)))), (aWa_functionTypes, .inl (cI, 30, .inl (fun k9 => iI (zW3.functionTypes k9)))), (aMa, .inr (6, [.ref aMa_bytes, .int (bI zAg.written), .int (iI zAg.pages), .ref aMa_globals, .int (iI x_5.1.steps), .ref aWa, .ref aCo, .int (iI x_5.1.reason), .int (iI (zAf.returns (zAf.depth - 1).toNat)), .ref aMa_stack, .int (iI x_5.2.height), .ref aMa_functions, .ref aMa_bases, .ref aMa_returns, .int (iI (zAf.depth - 1)), .int (iI (zAf.bases ((zAf.depth - 1) - 1).toNat)), .int (iI zAf.values)])), (aMa_stack, .inl (cJ, 12096, .inr (.inl x_5.2.stack)))] := ⟨hP_9, hD_9⟩
    clear hP_9 hD_9
    obtain ⟨hP_9, hD_9⟩ := hQ9
    refine lv_aload_n hx hb d_Ma_leave_81 rfl (lv_at hl 1 rfl) ?_
    refine lv_aload_n hx hb d_Ma_leave_82 rfl (lv_at hl 1 rfl) ?_
    refine va_get (D := G) (ci := 6) (v := .int (iI (zAf.bases ((zAf.depth - 1) - 1).toNat))) (C := R_Ma) (T := F_Ma) (N := 17) hx hb hts i_Ma hown hK hP_9 8 rfl rfl 15 (by decide) (hts _ m_176) (fun _ h9 => h9) rfl d_Ma_leave_83 ?_
    refine lv_aload_n hx hb d_Ma_leave_86 rfl (lv_at hl 1 rfl) ?_
    refine va_get (D := G) (ci := 6) (v := .ref aWa) (C := R_Ma) (T := F_Ma) (N := 17) hx hb hts i_Ma hown hK hP_9 8 rfl rfl 5 (by decide) (hts _ m_166) (fun _ h9 => h9) rfl d_Ma_leave_87 ?_
    refine lv_iload_n hx hb d_Ma_leave_90 rfl (lv_at hl 0 rfl) ?_
    replace hf := obE hnb hf
    obtain ⟨x_15, e_16, hf⟩ := hf
    refine xx_callV (wc := [(aWa, .inr (7, [.int (iI zW1.typeCount), .ref aWa_parameterCounts, .ref aWa_parameters, .ref aWa_results, .int (iI zW3.functionCount), .ref aWa_functionTypes, .ref aWa_starts, .ref aWa_localCounts, .ref aWa_locals, .int (bI zW5.hasMemory), .long zW5.pagesAtFirst, .long zW5.pagesMost, .int (iI zW6.globalCount), .ref aWa_globalTypes, .ref aWa_globalsChange, .ref aWa_initialTypes, .ref aWa_initialValues, .ref aEx, .ref aCo])), (aWa_parameterCounts, .inl (cI, 20, .inl (fun k9 => iI (zW1.parameterCounts k9)))), (aWa_functionTypes, .inl (cI, 30, .inl (fun k9 => iI (zW3.functionTypes k9))))]) (wr := [(aWa_localCounts, .inl (cI, 30, .inl (fun k9 => iI (zWj.localCounts k9)))), (aMa_functions, .inl (cI, 100, .inl (fun k9 => iI (zAf.functions k9)))), (aMa_bases, .inl (cI, 100, .inl (fun k9 => iI (zAf.bases k9)))), (aMa_returns, .inl (cI, 100, .inl (fun k9 => iI (zAf.returns k9)))), (aWa_results, .inl (cI, 20, .inl (fun k9 => iI (zW1.results k9)))), (aMa, .inr (6, [.ref aMa_bytes, .int (bI zAg.written), .int (iI zAg.pages), .ref aMa_globals, .int (iI x_5.1.steps), .ref aWa, .ref aCo, .int (iI x_5.1.reason), .int (iI (zAf.returns (zAf.depth - 1).toNat)), .ref aMa_stack, .int (iI x_5.2.height), .ref aMa_functions, .ref aMa_bases, .ref aMa_returns, .int (iI (zAf.depth - 1)), .int (iI (zAf.bases ((zAf.depth - 1) - 1).toNat)), .int (iI zAf.values)])), (aMa_stack, .inl (cJ, 12096, .inr (.inl x_5.2.stack)))]) (As := [.int (iI (zAf.functions ((zAf.depth - 1) - 1).toNat))]) (rest := [.int (iI (zAf.bases ((zAf.depth - 1) - 1).toNat)), .ref aMa]) ⟨hx, hb, hml, hown, hts⟩ xE_st hK hE hA (k_Wa_parameterCountOf l htr G cB cI cJ cZ cG aWa aWa_parameterCounts aWa_parameters aWa_results aWa_functionTypes aWa_starts aWa_localCounts aWa_locals aWa_globalTypes aWa_globalsChange aWa_initialTypes aWa_initialValues aEx aCo zW1 zW3 zW5 zW6 hzW1 hzW3 hzW5 hzW6 (zAf.functions ((zAf.depth - 1) - 1).toNat) (hzAf.functions _) (.ret x_15) e_16 ret_nb _) (xw_V 1 hts m_950 m_833 m_834 m_8 m_835 (by decide +kernel) ⟨(Nat.le_of_ble_eq_true rfl), (Nat.le_of_ble_eq_true rfl)⟩) hP_9 hD_9 hS_9 [5, 0, 7] [1, 2, 3, 4, 6, 8, 9] rfl rfl (by decide +kernel) (by decide +kernel) (by decide +kernel) 0 7 rfl rfl rfl rfl hl.1 rfl (Nat.le_of_ble_eq_true rfl) d_Ma_leave_91 ⟨(Nat.le_of_ble_eq_true rfl), (Nat.le_of_ble_eq_true rfl)⟩ (fun v9 w9 H_10 locs_10 hp hP_10 hD_10 hS_10 => ?_) (fun x9 w9 H9 l9 hp _ _ _ => absurd hp (fun q9 => by obtain ⟨-, ho, -⟩ := q9; cases ho))
    clear hS_9 hD_9 hP_9
    obtain ⟨hx_15, ho, rfl⟩ := hp
    cases ho
    have hQ9 : (fun w9 => va_P G classes w9 H_10 ∧ va_D A w9) [(aWa_localCounts, .inl (cI, 30, .inl (fun k9 => iI (zWj.localCounts k9)))), (aMa_functions, .inl (cI, 100, .inl (fun k9 => iI (zAf.functions k9)))), (aMa_bases, .inl (cI, 100, .inl (fun k9 => iI (zAf.bases k9)))), (aMa_returns, .inl (cI, 100, .inl (fun k9 => iI (zAf.returns k9)))), (aWa_results, .inl (cI, 20, .inl (fun k9 => iI (zW1.results k9)))), (aMa, .inr (6, [.ref aMa_bytes, .int (bI zAg.written), .int (iI zAg.pages), .ref aMa_globals, .int (iI x_5.1.steps), .ref aWa, .ref aCo, .int (iI x_5.1.reason), .int (iI (zAf.returns (zAf.depth - 1).toNat)), .ref aMa_stack, .int (iI x_5.2.height), .ref aMa_functions, .ref aMa_bases, .ref aMa_returns, .int (iI (zAf.depth - 1)), .int (iI (zAf.bases ((zAf.depth - 1) - 1).toNat)), .int (iI zAf.values)])), (aMa_stack, .inl (cJ, 12096, .inr (.inl x_5.2.stack))), (aWa, .inr (7, [.int (iI zW1.typeCount), .ref aWa_parameterCounts, .ref aWa_parameters, .ref aWa_results, .int (iI zW3.functionCount), .ref aWa_functionTypes, .ref aWa_starts, .ref aWa_localCounts, .ref aWa_locals, .int (bI zW5.hasMemory), .long zW5.pagesAtFirst, .long zW5.pagesMost, .int (iI zW6.globalCount), .ref aWa_globalTypes, .ref aWa_globalsChange, .ref aWa_initialTypes, .ref aWa_initialValues, .ref aEx, .ref aCo])), (aWa_parameterCounts, .inl (cI, 20, .inl (fun k9 => iI (zW1.parameterCounts k9)))), (aWa_functionTypes, .inl (cI, 30, .inl (fun k9 => iI (zW3.functionTypes k9))))] := ⟨hP_10, hD_10⟩
    clear hP_10 hD_10
    obtain ⟨hP_10, hD_10⟩ := hQ9
    refine lv_iadd hx hb d_Ma_leave_94 ?_
    refine lv_topi (fun x9 e9 => ?_)
    obtain rfl : x9 = iI ((zAf.bases ((zAf.depth - 1) - 1).toNat) + x_15) := e9.trans (iI_add _ _)
    replace hf := grd hnb hf
    obtain ⟨g_17, hf⟩ := hf
    refine lv_aload_n hx hb d_Ma_leave_95 rfl (lv_at hl 1 rfl) ?_
    refine va_get (D := G) (ci := 6) (v := .ref aWa) (C := R_Ma) (T := F_Ma) (N := 17) hx hb hts i_Ma hown hK hP_10 5 rfl rfl 5 (by decide) (hts _ m_166) (fun _ h9 => h9) rfl d_Ma_leave_96 ?_
    refine va_get (D := G) (ci := 7) (v := .ref aWa_localCounts) (C := R_Wa) (T := F_Wa) (N := 19) hx hb hts i_Wa hown hK hP_10 7 rfl rfl 7 (by decide) (hts _ m_337) (fun _ h9 => h9) rfl d_Ma_leave_99 ?_
    refine lv_iload_n hx hb d_Ma_leave_102 rfl (lv_at hl 0 rfl) ?_
    replace hf := grd hnb hf
    obtain ⟨g_18, hf⟩ := hf
    refine va_iald hx hb hK hP_10 0 1 rfl rfl (vp_in_iI (hzAf.functions _) g_18) d_Ma_leave_103 ?_
    refine W.eq (g2 := F0 m 104 ls [.int (iI (zWj.localCounts (zAf.functions ((zAf.depth - 1) - 1).toNat).toNat)), .int (iI ((zAf.bases ((zAf.depth - 1) - 1).toNat) + x_15)), .ref aMa]) (by rw [iI_clamp (hzAf.functions _)] <;> rfl) ?_
    refine lv_iadd hx hb d_Ma_leave_104 ?_
    refine lv_topi (fun x9 e9 => ?_)
    obtain rfl : x9 = iI (((zAf.bases ((zAf.depth - 1) - 1).toNat) + x_15) + (zWj.localCounts (zAf.functions ((zAf.depth - 1) - 1).toNat).toNat)) := e9.trans (iI_add _ _)
    replace hf := grd hnb hf
    obtain ⟨g_19, hf⟩ := hf
    refine va_put (D := G) (ci := 6) (v := .int (iI (((zAf.bases ((zAf.depth - 1) - 1).toNat) + x_15) + (zWj.localCounts (zAf.functions ((zAf.depth - 1) - 1).toNat).toNat)))) (ty := .int) (C := R_Ma) (T := F_Ma) (N := 17) hx hb hts i_Ma t_Ma t_Ma_ok n_Ma hown hK hP_10 hD_10 hS_10 5 rfl rfl 16 (by decide) (hts _ m_177) (fun _ h9 => h9) rfl (by decide +kernel) rfl rfl (Nat.le_of_ble_eq_true rfl) d_Ma_leave_105 (fun H_11 locs_11 hP_11 hD_11 hS_11 => ?_)
    clear hS_10 hD_10 hP_10
    have hQ9 : (fun w9 => va_P G classes w9 H_11 ∧ va_D A w9) [(aWa_localCounts, .inl (cI, 30, .inl (fun k9 => iI (zWj.localCounts k9)))), (aMa_functions, .inl (cI, 100, .inl (fun k9 => iI (zAf.functions k9)))), (aMa_bases, .inl (cI, 100, .inl (fun k9 => iI (zAf.bases k9)))), (aMa_returns, .inl (cI, 100, .inl (fun k9 => iI (zAf.returns k9)))), (aWa_results, .inl (cI, 20, .inl (fun k9 => iI (zW1.results k9)))), (aMa, .inr (6, [.ref aMa_bytes, .int (bI zAg.written), .int (iI zAg.pages), .ref aMa_globals, .int (iI x_5.1.steps), .ref aWa, .ref aCo, .int (iI x_5.1.reason), .int (iI (zAf.returns (zAf.depth - 1).toNat)), .ref aMa_stack, .int (iI x_5.2.height), .ref aMa_functions, .ref aMa_bases, .ref aMa_returns, .int (iI (zAf.depth - 1)), .int (iI (zAf.bases ((zAf.depth - 1) - 1).toNat)), .int (iI (((zAf.bases ((zAf.depth - 1) - 1).toNat) + x_15) + (zWj.localCounts (zAf.functions ((zAf.depth - 1) - 1).toNat).toNat)))])), (aMa_stack, .inl (cJ, 12096, .inr (.inl x_5.2.stack))), (aWa, .inr (7, [.int (iI zW1.typeCount), .ref aWa_parameterCounts, .ref aWa_parameters, .ref aWa_results, .int (iI zW3.functionCount), .ref aWa_functionTypes, .ref aWa_starts, .ref aWa_localCounts, .ref aWa_locals, .int (bI zW5.hasMemory), .long zW5.pagesAtFirst, .long zW5.pagesMost, .int (iI zW6.globalCount), .ref aWa_globalTypes, .ref aWa_globalsChange, .ref aWa_initialTypes, .ref aWa_initialValues, .ref aEx, .ref aCo])), (aWa_parameterCounts, .inl (cI, 20, .inl (fun k9 => iI (zW1.parameterCounts k9)))), (aWa_functionTypes, .inl (cI, 30, .inl (fun k9 => iI (zW3.functionTypes k9))))] := ⟨hP_11, hD_11⟩
    clear hP_11 hD_11
    obtain ⟨hP_11, hD_11⟩ := hQ9
    exact hJK_9 (KAf.mk zAf.functions zAf.bases zAf.returns (zAf.depth - 1) (zAf.bases ((zAf.depth - 1) - 1).toNat) (((zAf.bases ((zAf.depth - 1) - 1).toNat) + x_15) + (zWj.localCounts (zAf.functions ((zAf.depth - 1) - 1).toNat).toNat))) (KAf.Ok.mk hzAf.functions hzAf.bases hzAf.returns g_1 (hzAf.bases _) g_19 : KAf.Ok (KAf.mk zAf.functions zAf.bases zAf.returns (zAf.depth - 1) (zAf.bases ((zAf.depth - 1) - 1).toNat) (((zAf.bases ((zAf.depth - 1) - 1).toNat) + x_15) + (zWj.localCounts (zAf.functions ((zAf.depth - 1) - 1).toNat).toNat)))) hf _ _ (hP_11.sub [8, 0, 1, 2, 3, 7, 4, 9, 5, 6] rfl) (hD_11.sub [8, 0, 1, 2, 3, 7, 4, 9, 5, 6] (by decide +kernel) rfl) hS_11 _ (lv_sub hl [1] rfl)
set_option maxRecDepth 100000 in
abbrev pq_Ma_branch (cI cJ : ClassId) (aCo : Nat) (aCo_ops : Nat) (aCo_values : Nat) (aCo_extras : Nat) (aCo_ends : Nat) (aCo_elses : Nat) (aCo_heights : Nat) (aCo_targets : Nat) (aCo_labels : Nat) (aCo_labelTargets : Nat) (aWa : Nat) (aWa_parameterCounts : Nat) (aWa_parameters : Nat) (aWa_results : Nat) (aWa_functionTypes : Nat) (aWa_starts : Nat) (aWa_localCounts : Nat) (aWa_locals : Nat) (aWa_globalTypes : Nat) (aWa_globalsChange : Nat) (aWa_initialTypes : Nat) (aWa_initialValues : Nat) (aEx : Nat) (aMa : Nat) (aMa_bytes : Nat) (aMa_globals : Nat) (aMa_stack : Nat) (aMa_functions : Nat) (aMa_bases : Nat) (aMa_returns : Nat) (zCo : KCo) (zCt : KCt) (zW1 : KW1) (zW3 : KW3) (zWj : KWj) (zW5 : KW5) (zW6 : KW6) (zAg : KAg) (R9 : Out Empty (KMa × KAs × KAf)) := (fun (o : Outcome) (w1 : va_W) => ozp R9 (fun x9 => (KMa.Ok x9.1 ∧ KAs.Ok x9.2.1 ∧ KAf.Ok x9.2.2) ∧ o = .returned none ∧ w1 = [(aCo, .inr (9, [.int (iI zCo.size), .ref aCo_ops, .ref aCo_values, .ref aCo_extras, .ref aCo_ends, .ref aCo_elses, .ref aCo_heights, .ref aCo_targets, .int (iI zCo.labelCount), .ref aCo_labels, .ref aCo_labelTargets])), (aCo_ops, .inl (cI, 2000, .inl (fun k9 => iI (zCo.ops k9)))), (aCo_extras, .inl (cI, 2000, .inl (fun k9 => iI (zCo.extras k9)))), (aCo_ends, .inl (cI, 2000, .inl (fun k9 => iI (zCo.ends k9)))), (aCo_heights, .inl (cI, 2000, .inl (fun k9 => iI (zCt.heights k9)))), (aWa, .inr (7, [.int (iI zW1.typeCount), .ref aWa_parameterCounts, .ref aWa_parameters, .ref aWa_results, .int (iI zW3.functionCount), .ref aWa_functionTypes, .ref aWa_starts, .ref aWa_localCounts, .ref aWa_locals, .int (bI zW5.hasMemory), .long zW5.pagesAtFirst, .long zW5.pagesMost, .int (iI zW6.globalCount), .ref aWa_globalTypes, .ref aWa_globalsChange, .ref aWa_initialTypes, .ref aWa_initialValues, .ref aEx, .ref aCo])), (aWa_parameterCounts, .inl (cI, 20, .inl (fun k9 => iI (zW1.parameterCounts k9)))), (aWa_results, .inl (cI, 20, .inl (fun k9 => iI (zW1.results k9)))), (aWa_functionTypes, .inl (cI, 30, .inl (fun k9 => iI (zW3.functionTypes k9)))), (aWa_localCounts, .inl (cI, 30, .inl (fun k9 => iI (zWj.localCounts k9)))), (aMa, .inr (6, [.ref aMa_bytes, .int (bI zAg.written), .int (iI zAg.pages), .ref aMa_globals, .int (iI x9.1.steps), .ref aWa, .ref aCo, .int (iI x9.1.reason), .int (iI x9.1.next), .ref aMa_stack, .int (iI x9.2.1.height), .ref aMa_functions, .ref aMa_bases, .ref aMa_returns, .int (iI x9.2.2.depth), .int (iI x9.2.2.variables), .int (iI x9.2.2.values)])), (aMa_stack, .inl (cJ, 12096, .inr (.inl x9.2.1.stack))), (aMa_functions, .inl (cI, 100, .inl (fun k9 => iI (x9.2.2.functions k9)))), (aMa_bases, .inl (cI, 100, .inl (fun k9 => iI (x9.2.2.bases k9)))), (aMa_returns, .inl (cI, 100, .inl (fun k9 => iI (x9.2.2.returns k9))))]) (fun _ => False))
set_option maxHeartbeats 8000000 in
set_option maxRecDepth 100000 in
theorem k_Ma_branch (l : Launch) (htr : l.stackTraces = false) (G : va_G) (cB cI cJ cZ cG : ClassId) (aCo : Nat) (aCo_ops : Nat) (aCo_values : Nat) (aCo_extras : Nat) (aCo_ends : Nat) (aCo_elses : Nat) (aCo_heights : Nat) (aCo_targets : Nat) (aCo_labels : Nat) (aCo_labelTargets : Nat) (aWa : Nat) (aWa_parameterCounts : Nat) (aWa_parameters : Nat) (aWa_results : Nat) (aWa_functionTypes : Nat) (aWa_starts : Nat) (aWa_localCounts : Nat) (aWa_locals : Nat) (aWa_globalTypes : Nat) (aWa_globalsChange : Nat) (aWa_initialTypes : Nat) (aWa_initialValues : Nat) (aEx : Nat) (aMa : Nat) (aMa_bytes : Nat) (aMa_globals : Nat) (aMa_stack : Nat) (aMa_functions : Nat) (aMa_bases : Nat) (aMa_returns : Nat) (zCo : KCo) (zCt : KCt) (zW1 : KW1) (zW3 : KW3) (zWj : KWj) (zW5 : KW5) (zW6 : KW6) (zAg : KAg) (zMa : KMa) (zAs : KAs) (zAf : KAf) (hzCo : KCo.Ok zCo) (hzCt : KCt.Ok zCt) (hzW1 : KW1.Ok zW1) (hzW3 : KW3.Ok zW3) (hzWj : KWj.Ok zWj) (hzW5 : KW5.Ok zW5) (hzW6 : KW6.Ok zW6) (hzAg : KAg.Ok zAg) (hzMa : KMa.Ok zMa) (hzAs : KAs.Ok zAs) (hzAf : KAf.Ok zAf) (v_target : Int) (hv_target : R32 v_target) (R9 : Out Empty (KMa × KAs × KAf)) (hf : f_Ma_branch zCo zCt zW1 zW3 zWj zMa zAs zAf v_target = R9) (hnb : R9 ≠ .bad) (sz : Nat) : MetX l y_Ma_branch (wx y_Ma_branch b_Ma_branch 2 none) { frames := 3, cells := 0, slots := 0, locals := 67 } (XP G classes (xtys cB cI cJ cZ cG) xE [.ref aMa, .int (iI v_target)] [(aCo, .inr (9, [.int (iI zCo.size), .ref aCo_ops, .ref aCo_values, .ref aCo_extras, .ref aCo_ends, .ref aCo_elses, .ref aCo_heights, .ref aCo_targets, .int (iI zCo.labelCount), .ref aCo_labels, .ref aCo_labelTargets])), (aCo_ops, .inl (cI, 2000, .inl (fun k9 => iI (zCo.ops k9)))), (aCo_extras, .inl (cI, 2000, .inl (fun k9 => iI (zCo.extras k9)))), (aCo_ends, .inl (cI, 2000, .inl (fun k9 => iI (zCo.ends k9)))), (aCo_heights, .inl (cI, 2000, .inl (fun k9 => iI (zCt.heights k9)))), (aWa, .inr (7, [.int (iI zW1.typeCount), .ref aWa_parameterCounts, .ref aWa_parameters, .ref aWa_results, .int (iI zW3.functionCount), .ref aWa_functionTypes, .ref aWa_starts, .ref aWa_localCounts, .ref aWa_locals, .int (bI zW5.hasMemory), .long zW5.pagesAtFirst, .long zW5.pagesMost, .int (iI zW6.globalCount), .ref aWa_globalTypes, .ref aWa_globalsChange, .ref aWa_initialTypes, .ref aWa_initialValues, .ref aEx, .ref aCo])), (aWa_parameterCounts, .inl (cI, 20, .inl (fun k9 => iI (zW1.parameterCounts k9)))), (aWa_results, .inl (cI, 20, .inl (fun k9 => iI (zW1.results k9)))), (aWa_functionTypes, .inl (cI, 30, .inl (fun k9 => iI (zW3.functionTypes k9)))), (aWa_localCounts, .inl (cI, 30, .inl (fun k9 => iI (zWj.localCounts k9)))), (aMa, .inr (6, [.ref aMa_bytes, .int (bI zAg.written), .int (iI zAg.pages), .ref aMa_globals, .int (iI zMa.steps), .ref aWa, .ref aCo, .int (iI zMa.reason), .int (iI zMa.next), .ref aMa_stack, .int (iI zAs.height), .ref aMa_functions, .ref aMa_bases, .ref aMa_returns, .int (iI zAf.depth), .int (iI zAf.variables), .int (iI zAf.values)])), (aMa_stack, .inl (cJ, 12096, .inr (.inl zAs.stack))), (aMa_functions, .inl (cI, 100, .inl (fun k9 => iI (zAf.functions k9)))), (aMa_bases, .inl (cI, 100, .inl (fun k9 => iI (zAf.bases k9)))), (aMa_returns, .inl (cI, 100, .inl (fun k9 => iI (zAf.returns k9))))] sz) (XQ G classes (va_A [(aCo, .inr (9, [.int (iI zCo.size), .ref aCo_ops, .ref aCo_values, .ref aCo_extras, .ref aCo_ends, .ref aCo_elses, .ref aCo_heights, .ref aCo_targets, .int (iI zCo.labelCount), .ref aCo_labels, .ref aCo_labelTargets])), (aCo_ops, .inl (cI, 2000, .inl (fun k9 => iI (zCo.ops k9)))), (aCo_extras, .inl (cI, 2000, .inl (fun k9 => iI (zCo.extras k9)))), (aCo_ends, .inl (cI, 2000, .inl (fun k9 => iI (zCo.ends k9)))), (aCo_heights, .inl (cI, 2000, .inl (fun k9 => iI (zCt.heights k9)))), (aWa, .inr (7, [.int (iI zW1.typeCount), .ref aWa_parameterCounts, .ref aWa_parameters, .ref aWa_results, .int (iI zW3.functionCount), .ref aWa_functionTypes, .ref aWa_starts, .ref aWa_localCounts, .ref aWa_locals, .int (bI zW5.hasMemory), .long zW5.pagesAtFirst, .long zW5.pagesMost, .int (iI zW6.globalCount), .ref aWa_globalTypes, .ref aWa_globalsChange, .ref aWa_initialTypes, .ref aWa_initialValues, .ref aEx, .ref aCo])), (aWa_parameterCounts, .inl (cI, 20, .inl (fun k9 => iI (zW1.parameterCounts k9)))), (aWa_results, .inl (cI, 20, .inl (fun k9 => iI (zW1.results k9)))), (aWa_functionTypes, .inl (cI, 30, .inl (fun k9 => iI (zW3.functionTypes k9)))), (aWa_localCounts, .inl (cI, 30, .inl (fun k9 => iI (zWj.localCounts k9)))), (aMa, .inr (6, [.ref aMa_bytes, .int (bI zAg.written), .int (iI zAg.pages), .ref aMa_globals, .int (iI zMa.steps), .ref aWa, .ref aCo, .int (iI zMa.reason), .int (iI zMa.next), .ref aMa_stack, .int (iI zAs.height), .ref aMa_functions, .ref aMa_bases, .ref aMa_returns, .int (iI zAf.depth), .int (iI zAf.variables), .int (iI zAf.values)])), (aMa_stack, .inl (cJ, 12096, .inr (.inl zAs.stack))), (aMa_functions, .inl (cI, 100, .inl (fun k9 => iI (zAf.functions k9)))), (aMa_bases, .inl (cI, 100, .inl (fun k9 => iI (zAf.bases k9)))), (aMa_returns, .inl (cI, 100, .inl (fun k9 => iI (zAf.returns k9))))] sz) (fun o w1 => ozp R9 (fun x9 => (KMa.Ok x9.1 ∧ KAs.Ok x9.2.1 ∧ KAf.Ok x9.2.2) ∧ o = .returned none ∧ w1 = [(aCo, .inr (9, [.int (iI zCo.size), .ref aCo_ops, .ref aCo_values, .ref aCo_extras, .ref aCo_ends, .ref aCo_elses, .ref aCo_heights, .ref aCo_targets, .int (iI zCo.labelCount), .ref aCo_labels, .ref aCo_labelTargets])), (aCo_ops, .inl (cI, 2000, .inl (fun k9 => iI (zCo.ops k9)))), (aCo_extras, .inl (cI, 2000, .inl (fun k9 => iI (zCo.extras k9)))), (aCo_ends, .inl (cI, 2000, .inl (fun k9 => iI (zCo.ends k9)))), (aCo_heights, .inl (cI, 2000, .inl (fun k9 => iI (zCt.heights k9)))), (aWa, .inr (7, [.int (iI zW1.typeCount), .ref aWa_parameterCounts, .ref aWa_parameters, .ref aWa_results, .int (iI zW3.functionCount), .ref aWa_functionTypes, .ref aWa_starts, .ref aWa_localCounts, .ref aWa_locals, .int (bI zW5.hasMemory), .long zW5.pagesAtFirst, .long zW5.pagesMost, .int (iI zW6.globalCount), .ref aWa_globalTypes, .ref aWa_globalsChange, .ref aWa_initialTypes, .ref aWa_initialValues, .ref aEx, .ref aCo])), (aWa_parameterCounts, .inl (cI, 20, .inl (fun k9 => iI (zW1.parameterCounts k9)))), (aWa_results, .inl (cI, 20, .inl (fun k9 => iI (zW1.results k9)))), (aWa_functionTypes, .inl (cI, 30, .inl (fun k9 => iI (zW3.functionTypes k9)))), (aWa_localCounts, .inl (cI, 30, .inl (fun k9 => iI (zWj.localCounts k9)))), (aMa, .inr (6, [.ref aMa_bytes, .int (bI zAg.written), .int (iI zAg.pages), .ref aMa_globals, .int (iI x9.1.steps), .ref aWa, .ref aCo, .int (iI x9.1.reason), .int (iI x9.1.next), .ref aMa_stack, .int (iI x9.2.1.height), .ref aMa_functions, .ref aMa_bases, .ref aMa_returns, .int (iI x9.2.2.depth), .int (iI x9.2.2.variables), .int (iI x9.2.2.values)])), (aMa_stack, .inl (cJ, 12096, .inr (.inl x9.2.1.stack))), (aMa_functions, .inl (cI, 100, .inl (fun k9 => iI (x9.2.2.functions k9)))), (aMa_bases, .inl (cI, 100, .inl (fun k9 => iI (x9.2.2.bases k9)))), (aMa_returns, .inl (cI, 100, .inl (fun k9 => iI (x9.2.2.returns k9))))]) (fun _ => False))) 0 0 (va_A [(aCo, .inr (9, [.int (iI zCo.size), .ref aCo_ops, .ref aCo_values, .ref aCo_extras, .ref aCo_ends, .ref aCo_elses, .ref aCo_heights, .ref aCo_targets, .int (iI zCo.labelCount), .ref aCo_labels, .ref aCo_labelTargets])), (aCo_ops, .inl (cI, 2000, .inl (fun k9 => iI (zCo.ops k9)))), (aCo_extras, .inl (cI, 2000, .inl (fun k9 => iI (zCo.extras k9)))), (aCo_ends, .inl (cI, 2000, .inl (fun k9 => iI (zCo.ends k9)))), (aCo_heights, .inl (cI, 2000, .inl (fun k9 => iI (zCt.heights k9)))), (aWa, .inr (7, [.int (iI zW1.typeCount), .ref aWa_parameterCounts, .ref aWa_parameters, .ref aWa_results, .int (iI zW3.functionCount), .ref aWa_functionTypes, .ref aWa_starts, .ref aWa_localCounts, .ref aWa_locals, .int (bI zW5.hasMemory), .long zW5.pagesAtFirst, .long zW5.pagesMost, .int (iI zW6.globalCount), .ref aWa_globalTypes, .ref aWa_globalsChange, .ref aWa_initialTypes, .ref aWa_initialValues, .ref aEx, .ref aCo])), (aWa_parameterCounts, .inl (cI, 20, .inl (fun k9 => iI (zW1.parameterCounts k9)))), (aWa_results, .inl (cI, 20, .inl (fun k9 => iI (zW1.results k9)))), (aWa_functionTypes, .inl (cI, 30, .inl (fun k9 => iI (zW3.functionTypes k9)))), (aWa_localCounts, .inl (cI, 30, .inl (fun k9 => iI (zWj.localCounts k9)))), (aMa, .inr (6, [.ref aMa_bytes, .int (bI zAg.written), .int (iI zAg.pages), .ref aMa_globals, .int (iI zMa.steps), .ref aWa, .ref aCo, .int (iI zMa.reason), .int (iI zMa.next), .ref aMa_stack, .int (iI zAs.height), .ref aMa_functions, .ref aMa_bases, .ref aMa_returns, .int (iI zAf.depth), .int (iI zAf.variables), .int (iI zAf.values)])), (aMa_stack, .inl (cJ, 12096, .inr (.inl zAs.stack))), (aMa_functions, .inl (cI, 100, .inl (fun k9 => iI (zAf.functions k9)))), (aMa_bases, .inl (cI, 100, .inl (fun k9 => iI (zAf.bases k9)))), (aMa_returns, .inl (cI, 100, .inl (fun k9 => iI (zAf.returns k9))))] sz) := by
  refine ex_ofW (cc := b_Ma_branch) (maxL := 2) (ret := none) (by decide) rfl ?_
  intro p e s m args below meth c s₁ B hml hno hv
  obtain ⟨rfl, hsz, hP, hK, hD0, hE⟩ := hv
  have hx := B.exec
  have hb := B.bytes
  have hr := B.returns
  have hts : ∀ w ∈ lw_good, w.before _ s = true := fun w h => atoms_spec (ws := wx y_Ma_branch b_Ma_branch 2 none) B.pre w (List.mem_cons_of_mem _ h)
  have hown : s.vm.findClass R_Ma = some m.cls := findClass_of_methodNamed B.named
  have hlocks := B.notSynchronized
  subst hsz
  have hNS := xx_nostat hP
  have hD := hD0.self (sz := s.heap.size)
  generalize hAe : va_A [(aCo, .inr (9, [.int (iI zCo.size), .ref aCo_ops, .ref aCo_values, .ref aCo_extras, .ref aCo_ends, .ref aCo_elses, .ref aCo_heights, .ref aCo_targets, .int (iI zCo.labelCount), .ref aCo_labels, .ref aCo_labelTargets])), (aCo_ops, .inl (cI, 2000, .inl (fun k9 => iI (zCo.ops k9)))), (aCo_extras, .inl (cI, 2000, .inl (fun k9 => iI (zCo.extras k9)))), (aCo_ends, .inl (cI, 2000, .inl (fun k9 => iI (zCo.ends k9)))), (aCo_heights, .inl (cI, 2000, .inl (fun k9 => iI (zCt.heights k9)))), (aWa, .inr (7, [.int (iI zW1.typeCount), .ref aWa_parameterCounts, .ref aWa_parameters, .ref aWa_results, .int (iI zW3.functionCount), .ref aWa_functionTypes, .ref aWa_starts, .ref aWa_localCounts, .ref aWa_locals, .int (bI zW5.hasMemory), .long zW5.pagesAtFirst, .long zW5.pagesMost, .int (iI zW6.globalCount), .ref aWa_globalTypes, .ref aWa_globalsChange, .ref aWa_initialTypes, .ref aWa_initialValues, .ref aEx, .ref aCo])), (aWa_parameterCounts, .inl (cI, 20, .inl (fun k9 => iI (zW1.parameterCounts k9)))), (aWa_results, .inl (cI, 20, .inl (fun k9 => iI (zW1.results k9)))), (aWa_functionTypes, .inl (cI, 30, .inl (fun k9 => iI (zW3.functionTypes k9)))), (aWa_localCounts, .inl (cI, 30, .inl (fun k9 => iI (zWj.localCounts k9)))), (aMa, .inr (6, [.ref aMa_bytes, .int (bI zAg.written), .int (iI zAg.pages), .ref aMa_globals, .int (iI zMa.steps), .ref aWa, .ref aCo, .int (iI zMa.reason), .int (iI zMa.next), .ref aMa_stack, .int (iI zAs.height), .ref aMa_functions, .ref aMa_bases, .ref aMa_returns, .int (iI zAf.depth), .int (iI zAf.variables), .int (iI zAf.values)])), (aMa_stack, .inl (cJ, 12096, .inr (.inl zAs.stack))), (aMa_functions, .inl (cI, 100, .inl (fun k9 => iI (zAf.functions k9)))), (aMa_bases, .inl (cI, 100, .inl (fun k9 => iI (zAf.bases k9)))), (aMa_returns, .inl (cI, 100, .inl (fun k9 => iI (zAf.returns k9))))] s.heap.size = A at hD hE hNS ⊢
  have hA : ∀ q : Nat, s.heap.size ≤ q → A q := fun q h => by rw [← hAe]; exact Or.inr h
  have hS : va_S A s.heap s.heap [] := va_S.rf
  have hl := lv_entry ([.ref aMa, .int (iI v_target)]) (n := 2) (Nat.le_of_ble_eq_true rfl)
  rw [lg_entry_eq]
  generalize (lg_sl ([.ref aMa, .int (iI v_target)]) ++ List.replicate (2 - (lg_sl ([.ref aMa, .int (iI v_target)])).length) Slot.unset).toArray = ls at hl ⊢
  have hl : lv_has ls 2 [(0, .ref aMa), (1, .int (iI v_target))] := hl
  unfold f_Ma_branch at hf
  refine lv_iload_n hx hb d_Ma_branch_0 rfl (lv_at hl 1 rfl) ?_
  refine jpE hf (fun K_2 hK_2 hf9 => ?_)
  replace hf := hf9
  clear hf9
  have hJK_2 : ∀ (y_1 : KMa × KAs × KAf), KMa.Ok y_1.1 ∧ KAs.Ok y_1.2.1 ∧ KAf.Ok y_1.2.2 → K_2 y_1 = R9 → ∀ (H : Heap) (locs : List Loc), (fun w9 => va_P G classes w9 H → va_D A w9 → va_S A s.heap H locs → ∀ (ls : Array Slot), lv_has ls 2 [(0, .ref aMa), (1, .int (iI v_target))] → W p l e (headSpec (wx y_Ma_branch b_Ma_branch 2 none) { frames := 3, cells := 0, slots := 0, locals := 67 }).room s m ([.ref aMa, .int (iI v_target)] : List Value).toArray below meth c H locs 0 0 (MX below (XQ G classes A (pq_Ma_branch cI cJ aCo aCo_ops aCo_values aCo_extras aCo_ends aCo_elses aCo_heights aCo_targets aCo_labels aCo_labelTargets aWa aWa_parameterCounts aWa_parameters aWa_results aWa_functionTypes aWa_starts aWa_localCounts aWa_locals aWa_globalTypes aWa_globalsChange aWa_initialTypes aWa_initialValues aEx aMa aMa_bytes aMa_globals aMa_stack aMa_functions aMa_bases aMa_returns zCo zCt zW1 zW3 zWj zW5 zW6 zAg R9)) ([.ref aMa, .int (iI v_target)] : List Value).toArray s 0 0 A) (F0 m 94 ls [])) [(aCo, .inr (9, [.int (iI zCo.size), .ref aCo_ops, .ref aCo_values, .ref aCo_extras, .ref aCo_ends, .ref aCo_elses, .ref aCo_heights, .ref aCo_targets, .int (iI zCo.labelCount), .ref aCo_labels, .ref aCo_labelTargets])), (aCo_ops, .inl (cI, 2000, .inl (fun k9 => iI (zCo.ops k9)))), (aCo_extras, .inl (cI, 2000, .inl (fun k9 => iI (zCo.extras k9)))), (aCo_ends, .inl (cI, 2000, .inl (fun k9 => iI (zCo.ends k9)))), (aCo_heights, .inl (cI, 2000, .inl (fun k9 => iI (zCt.heights k9)))), (aWa, .inr (7, [.int (iI zW1.typeCount), .ref aWa_parameterCounts, .ref aWa_parameters, .ref aWa_results, .int (iI zW3.functionCount), .ref aWa_functionTypes, .ref aWa_starts, .ref aWa_localCounts, .ref aWa_locals, .int (bI zW5.hasMemory), .long zW5.pagesAtFirst, .long zW5.pagesMost, .int (iI zW6.globalCount), .ref aWa_globalTypes, .ref aWa_globalsChange, .ref aWa_initialTypes, .ref aWa_initialValues, .ref aEx, .ref aCo])), (aWa_parameterCounts, .inl (cI, 20, .inl (fun k9 => iI (zW1.parameterCounts k9)))), (aWa_results, .inl (cI, 20, .inl (fun k9 => iI (zW1.results k9)))), (aWa_functionTypes, .inl (cI, 30, .inl (fun k9 => iI (zW3.functionTypes k9)))), (aWa_localCounts, .inl (cI, 30, .inl (fun k9 => iI (zWj.localCounts k9)))), (aMa, .inr (6, [.ref aMa_bytes, .int (bI zAg.written), .int (iI zAg.pages), .ref aMa_globals, .int (iI y_1.1.steps), .ref aWa, .ref aCo, .int (iI y_1.1.reason), .int (iI y_1.1.next), .ref aMa_stack, .int (iI y_1.2.1.height), .ref aMa_functions, .ref aMa_bases, .ref aMa_returns, .int (iI y_1.2.2.depth), .int (iI y_1.2.2.variables), .int (iI y_1.2.2.values)])), (aMa_stack, .inl (cJ, 12096, .inr (.inl y_1.2.1.stack))), (aMa_functions, .inl (cI, 100, .inl (fun k9 => iI (y_1.2.2.functions k9)))), (aMa_bases, .inl (cI, 100, .inl (fun k9 => iI (y_1.2.2.bases k9)))), (aMa_returns, .inl (cI, 100, .inl (fun k9 => iI (y_1.2.2.returns k9))))] := by
    intro y_1 hy_1 hf H_6 locs_6 hP_6 hD_6 hS_6 ls hl
    clear hS hD hP
    replace hf := (congrFun hK_2 y_1).symm.trans hf
    clear hK_2
    exact ex_W (fun _ h => ex_mq h) (W.vret hx hb hr (fun t ht hW => ⟨⟨_, ozr hf ⟨⟨hy_1.1, hy_1.2.1, hy_1.2.2⟩, rfl, rfl⟩, by rw [ht]; exact hP_6, hD_6⟩, hS_6.F ht⟩) hS_6.2.2 d_Ma_branch_94)
  clear hK_2
  refine lv_if_ge (tgt := 11) hx hb d_Ma_branch_1 (by decide) (fun c_3 => ?_) (fun c_3 => ?_)
  · have c_3 := ((zv_le zero_v (iI_t hv_target))).mp c_3
    replace hf := ifp c_3 hf
    refine lv_aload_n hx hb d_Ma_branch_11 rfl (lv_at hl 0 rfl) ?_
    refine va_get (D := G) (ci := 6) (v := .ref aCo) (C := R_Ma) (T := F_Ma) (N := 17) hx hb hts i_Ma hown hK hP 10 rfl rfl 6 (by decide) (hts _ m_167) (fun _ h9 => h9) rfl d_Ma_branch_12 ?_
    refine va_get (D := G) (ci := 9) (v := .ref aCo_ops) (C := R_Co) (T := F_Co) (N := 11) hx hb hts i_Co hown hK hP 0 rfl rfl 1 (by decide) (hts _ m_261) (fun _ h9 => h9) rfl d_Ma_branch_15 ?_
    refine lv_iload_n hx hb d_Ma_branch_18 rfl (lv_at hl 1 rfl) ?_
    replace hf := grd hnb hf
    obtain ⟨g_4, hf⟩ := hf
    refine va_iald hx hb hK hP 1 1 rfl rfl (vp_in_iI hv_target g_4) d_Ma_branch_19 ?_
    refine W.eq (g2 := F0 m 20 ls [.int (iI (zCo.ops v_target.toNat))]) (by rw [iI_clamp hv_target] <;> rfl) ?_
    refine lv_iconst (v := iI 3) hx hb d_Ma_branch_20 (by decide) ?_
    refine lv_icmp_ne (tgt := 52) hx hb d_Ma_branch_21 (by decide) (fun c_5 => ?_) (fun c_5 => ?_)
    · have c_5 := (fun q9 => c_5 (((zv_eq (iI_t (hzCo.ops _)) (iI_t (show R32 (3) by decide)))).mpr q9))
      replace hf := ifn c_5 hf
      refine lv_aload_n hx hb d_Ma_branch_52 rfl (lv_at hl 0 rfl) ?_
      refine lv_aload_n hx hb d_Ma_branch_53 rfl (lv_at hl 0 rfl) ?_
      refine va_get (D := G) (ci := 6) (v := .int (iI zAf.values)) (C := R_Ma) (T := F_Ma) (N := 17) hx hb hts i_Ma hown hK hP 10 rfl rfl 16 (by decide) (hts _ m_177) (fun _ h9 => h9) rfl d_Ma_branch_54 ?_
      refine lv_aload_n hx hb d_Ma_branch_57 rfl (lv_at hl 0 rfl) ?_
      refine va_get (D := G) (ci := 6) (v := .ref aCo) (C := R_Ma) (T := F_Ma) (N := 17) hx hb hts i_Ma hown hK hP 10 rfl rfl 6 (by decide) (hts _ m_167) (fun _ h9 => h9) rfl d_Ma_branch_58 ?_
      refine va_get (D := G) (ci := 9) (v := .ref aCo_heights) (C := R_Co) (T := F_Co) (N := 11) hx hb hts i_Co hown hK hP 0 rfl rfl 6 (by decide) (hts _ m_280) (fun _ h9 => h9) rfl d_Ma_branch_61 ?_
      refine lv_iload_n hx hb d_Ma_branch_64 rfl (lv_at hl 1 rfl) ?_
      replace hf := grd hnb hf
      obtain ⟨g_6, hf⟩ := hf
      refine va_iald hx hb hK hP 4 1 rfl rfl (vp_in_iI hv_target g_6) d_Ma_branch_65 ?_
      refine W.eq (g2 := F0 m 66 ls [.int (iI (zCt.heights v_target.toNat)), .int (iI zAf.values), .ref aMa]) (by rw [iI_clamp hv_target] <;> rfl) ?_
      refine lv_iadd hx hb d_Ma_branch_66 ?_
      refine lv_topi (fun x9 e9 => ?_)
      obtain rfl : x9 = iI (zAf.values + (zCt.heights v_target.toNat)) := e9.trans (iI_add _ _)
      replace hf := grd hnb hf
      obtain ⟨g_7, hf⟩ := hf
      refine lv_aload_n hx hb d_Ma_branch_67 rfl (lv_at hl 0 rfl) ?_
      refine va_get (D := G) (ci := 6) (v := .ref aCo) (C := R_Ma) (T := F_Ma) (N := 17) hx hb hts i_Ma hown hK hP 10 rfl rfl 6 (by decide) (hts _ m_167) (fun _ h9 => h9) rfl d_Ma_branch_68 ?_
      refine va_get (D := G) (ci := 9) (v := .ref aCo_extras) (C := R_Co) (T := F_Co) (N := 11) hx hb hts i_Co hown hK hP 0 rfl rfl 3 (by decide) (hts _ m_270) (fun _ h9 => h9) rfl d_Ma_branch_71 ?_
      refine lv_iload_n hx hb d_Ma_branch_74 rfl (lv_at hl 1 rfl) ?_
      replace hf := grd hnb hf
      obtain ⟨g_8, hf⟩ := hf
      refine va_iald hx hb hK hP 2 1 rfl rfl (vp_in_iI hv_target g_8) d_Ma_branch_75 ?_
      refine W.eq (g2 := F0 m 76 ls [.int (iI (zCo.extras v_target.toNat)), .int (iI (zAf.values + (zCt.heights v_target.toNat))), .ref aMa]) (by rw [iI_clamp hv_target] <;> rfl) ?_
      replace hf := obE hnb hf
      obtain ⟨x_9, e_10, hf⟩ := hf
      refine xx_callV (wc := [(aMa, .inr (6, [.ref aMa_bytes, .int (bI zAg.written), .int (iI zAg.pages), .ref aMa_globals, .int (iI zMa.steps), .ref aWa, .ref aCo, .int (iI zMa.reason), .int (iI zMa.next), .ref aMa_stack, .int (iI zAs.height), .ref aMa_functions, .ref aMa_bases, .ref aMa_returns, .int (iI zAf.depth), .int (iI zAf.variables), .int (iI zAf.values)])), (aMa_stack, .inl (cJ, 12096, .inr (.inl zAs.stack)))]) (wr := [(aCo, .inr (9, [.int (iI zCo.size), .ref aCo_ops, .ref aCo_values, .ref aCo_extras, .ref aCo_ends, .ref aCo_elses, .ref aCo_heights, .ref aCo_targets, .int (iI zCo.labelCount), .ref aCo_labels, .ref aCo_labelTargets])), (aCo_ops, .inl (cI, 2000, .inl (fun k9 => iI (zCo.ops k9)))), (aCo_extras, .inl (cI, 2000, .inl (fun k9 => iI (zCo.extras k9)))), (aCo_ends, .inl (cI, 2000, .inl (fun k9 => iI (zCo.ends k9)))), (aCo_heights, .inl (cI, 2000, .inl (fun k9 => iI (zCt.heights k9)))), (aWa, .inr (7, [.int (iI zW1.typeCount), .ref aWa_parameterCounts, .ref aWa_parameters, .ref aWa_results, .int (iI zW3.functionCount), .ref aWa_functionTypes, .ref aWa_starts, .ref aWa_localCounts, .ref aWa_locals, .int (bI zW5.hasMemory), .long zW5.pagesAtFirst, .long zW5.pagesMost, .int (iI zW6.globalCount), .ref aWa_globalTypes, .ref aWa_globalsChange, .ref aWa_initialTypes, .ref aWa_initialValues, .ref aEx, .ref aCo])), (aWa_parameterCounts, .inl (cI, 20, .inl (fun k9 => iI (zW1.parameterCounts k9)))), (aWa_results, .inl (cI, 20, .inl (fun k9 => iI (zW1.results k9)))), (aWa_functionTypes, .inl (cI, 30, .inl (fun k9 => iI (zW3.functionTypes k9)))), (aWa_localCounts, .inl (cI, 30, .inl (fun k9 => iI (zWj.localCounts k9)))), (aMa_functions, .inl (cI, 100, .inl (fun k9 => iI (zAf.functions k9)))), (aMa_bases, .inl (cI, 100, .inl (fun k9 => iI (zAf.bases k9)))), (aMa_returns, .inl (cI, 100, .inl (fun k9 => iI (zAf.returns k9))))]) (As := [.int (iI (zAf.values + (zCt.heights v_target.toNat))), .int (iI (zCo.extras v_target.toNat))]) (rest := []) ⟨hx, hb, hml, hown, hts⟩ xE_st hK hE hA (k_Ma_unwind l htr G cB cI cJ cZ cG aMa aMa_bytes aMa_globals aWa aCo aMa_stack aMa_functions aMa_bases aMa_returns zAg zMa zAs zAf hzAg hzMa hzAs hzAf (zAf.values + (zCt.heights v_target.toNat)) (zCo.extras v_target.toNat) g_7 (hzCo.extras _) (.ret x_9) e_10 ret_nb _) (xw_V 2 hts m_966 m_968 ms_Ma_unwind m_7 m_969 (by decide +kernel) ⟨(Nat.le_of_ble_eq_true rfl), (Nat.le_of_ble_eq_true rfl)⟩) hP hD hS [10, 11] [0, 1, 2, 3, 4, 5, 6, 7, 8, 9, 12, 13, 14] rfl rfl (by decide +kernel) (by decide +kernel) (by decide +kernel) 0 6 rfl rfl rfl rfl hl.1 rfl (Nat.le_of_ble_eq_true rfl) d_Ma_branch_76 ⟨(Nat.le_of_ble_eq_true rfl), (Nat.le_of_ble_eq_true rfl)⟩ (fun v9 w9 H_7 locs_7 hp hP_7 hD_7 hS_7 => ?_) (fun x9 w9 H9 l9 hp _ _ _ => absurd hp (fun q9 => by obtain ⟨-, ho, -⟩ := q9; cases ho))
      clear hS hD hP
      obtain ⟨hx_9, ho, rfl⟩ := hp
      cases ho
      have hQ9 : (fun w9 => va_P G classes w9 H_7 ∧ va_D A w9) [(aCo, .inr (9, [.int (iI zCo.size), .ref aCo_ops, .ref aCo_values, .ref aCo_extras, .ref aCo_ends, .ref aCo_elses, .ref aCo_heights, .ref aCo_targets, .int (iI zCo.labelCount), .ref aCo_labels, .ref aCo_labelTargets])), (aCo_ops, .inl (cI, 2000, .inl (fun k9 => iI (zCo.ops k9)))), (aCo_extras, .inl (cI, 2000, .inl (fun k9 => iI (zCo.extras k9)))), (aCo_ends, .inl (cI, 2000, .inl (fun k9 => iI (zCo.ends k9)))), (aCo_heights, .inl (cI, 2000, .inl (fun k9 => iI (zCt.heights k9)))), (aWa, .inr (7, [.int (iI zW1.typeCount), .ref aWa_parameterCounts, .ref aWa_parameters, .ref aWa_results, .int (iI zW3.functionCount), .ref aWa_functionTypes, .ref aWa_starts, .ref aWa_localCounts, .ref aWa_locals, .int (bI zW5.hasMemory), .long zW5.pagesAtFirst, .long zW5.pagesMost, .int (iI zW6.globalCount), .ref aWa_globalTypes, .ref aWa_globalsChange, .ref aWa_initialTypes, .ref aWa_initialValues, .ref aEx, .ref aCo])), (aWa_parameterCounts, .inl (cI, 20, .inl (fun k9 => iI (zW1.parameterCounts k9)))), (aWa_results, .inl (cI, 20, .inl (fun k9 => iI (zW1.results k9)))), (aWa_functionTypes, .inl (cI, 30, .inl (fun k9 => iI (zW3.functionTypes k9)))), (aWa_localCounts, .inl (cI, 30, .inl (fun k9 => iI (zWj.localCounts k9)))), (aMa_functions, .inl (cI, 100, .inl (fun k9 => iI (zAf.functions k9)))), (aMa_bases, .inl (cI, 100, .inl (fun k9 => iI (zAf.bases k9)))), (aMa_returns, .inl (cI, 100, .inl (fun k9 => iI (zAf.returns k9)))), (aMa, .inr (6, [.ref aMa_bytes, .int (bI zAg.written), .int (iI zAg.pages), .ref aMa_globals, .int (iI x_9.1.steps), .ref aWa, .ref aCo, .int (iI x_9.1.reason), .int (iI x_9.1.next), .ref aMa_stack, .int (iI x_9.2.height), .ref aMa_functions, .ref aMa_bases, .ref aMa_returns, .int (iI zAf.depth), .int (iI zAf.variables), .int (iI zAf.values)])), (aMa_stack, .inl (cJ, 12096, .inr (.inl x_9.2.stack)))] := ⟨hP_7, hD_7⟩
      clear hP_7 hD_7
      obtain ⟨hP_7, hD_7⟩ := hQ9
      refine lv_aload_n hx hb d_Ma_branch_79 rfl (lv_at hl 0 rfl) ?_
      refine lv_aload_n hx hb d_Ma_branch_80 rfl (lv_at hl 0 rfl) ?_
      refine va_get (D := G) (ci := 6) (v := .ref aCo) (C := R_Ma) (T := F_Ma) (N := 17) hx hb hts i_Ma hown hK hP_7 13 rfl rfl 6 (by decide) (hts _ m_167) (fun _ h9 => h9) rfl d_Ma_branch_81 ?_
      refine va_get (D := G) (ci := 9) (v := .ref aCo_ends) (C := R_Co) (T := F_Co) (N := 11) hx hb hts i_Co hown hK hP_7 0 rfl rfl 4 (by decide) (hts _ m_272) (fun _ h9 => h9) rfl d_Ma_branch_84 ?_
      refine lv_iload_n hx hb d_Ma_branch_87 rfl (lv_at hl 1 rfl) ?_
      replace hf := grd hnb hf
      obtain ⟨g_11, hf⟩ := hf
      refine va_iald hx hb hK hP_7 3 1 rfl rfl (vp_in_iI hv_target g_11) d_Ma_branch_88 ?_
      refine W.eq (g2 := F0 m 89 ls [.int (iI (zCo.ends v_target.toNat)), .ref aMa]) (by rw [iI_clamp hv_target] <;> rfl) ?_
      refine lv_iconst (v := iI 1) hx hb d_Ma_branch_89 (by decide) ?_
      refine lv_iadd hx hb d_Ma_branch_90 ?_
      refine lv_topi (fun x9 e9 => ?_)
      obtain rfl : x9 = iI ((zCo.ends v_target.toNat) + 1) := e9.trans (iI_add _ _)
      replace hf := grd hnb hf
      obtain ⟨g_12, hf⟩ := hf
      refine va_put (D := G) (ci := 6) (v := .int (iI ((zCo.ends v_target.toNat) + 1))) (ty := .int) (C := R_Ma) (T := F_Ma) (N := 17) hx hb hts i_Ma t_Ma t_Ma_ok n_Ma hown hK hP_7 hD_7 hS_7 13 rfl rfl 8 (by decide) (hts _ m_169) (fun _ h9 => h9) rfl (by decide +kernel) rfl rfl (Nat.le_of_ble_eq_true rfl) d_Ma_branch_91 (fun H_8 locs_8 hP_8 hD_8 hS_8 => ?_)
      clear hS_7 hD_7 hP_7
      have hQ9 : (fun w9 => va_P G classes w9 H_8 ∧ va_D A w9) [(aCo, .inr (9, [.int (iI zCo.size), .ref aCo_ops, .ref aCo_values, .ref aCo_extras, .ref aCo_ends, .ref aCo_elses, .ref aCo_heights, .ref aCo_targets, .int (iI zCo.labelCount), .ref aCo_labels, .ref aCo_labelTargets])), (aCo_ops, .inl (cI, 2000, .inl (fun k9 => iI (zCo.ops k9)))), (aCo_extras, .inl (cI, 2000, .inl (fun k9 => iI (zCo.extras k9)))), (aCo_ends, .inl (cI, 2000, .inl (fun k9 => iI (zCo.ends k9)))), (aCo_heights, .inl (cI, 2000, .inl (fun k9 => iI (zCt.heights k9)))), (aWa, .inr (7, [.int (iI zW1.typeCount), .ref aWa_parameterCounts, .ref aWa_parameters, .ref aWa_results, .int (iI zW3.functionCount), .ref aWa_functionTypes, .ref aWa_starts, .ref aWa_localCounts, .ref aWa_locals, .int (bI zW5.hasMemory), .long zW5.pagesAtFirst, .long zW5.pagesMost, .int (iI zW6.globalCount), .ref aWa_globalTypes, .ref aWa_globalsChange, .ref aWa_initialTypes, .ref aWa_initialValues, .ref aEx, .ref aCo])), (aWa_parameterCounts, .inl (cI, 20, .inl (fun k9 => iI (zW1.parameterCounts k9)))), (aWa_results, .inl (cI, 20, .inl (fun k9 => iI (zW1.results k9)))), (aWa_functionTypes, .inl (cI, 30, .inl (fun k9 => iI (zW3.functionTypes k9)))), (aWa_localCounts, .inl (cI, 30, .inl (fun k9 => iI (zWj.localCounts k9)))), (aMa_functions, .inl (cI, 100, .inl (fun k9 => iI (zAf.functions k9)))), (aMa_bases, .inl (cI, 100, .inl (fun k9 => iI (zAf.bases k9)))), (aMa_returns, .inl (cI, 100, .inl (fun k9 => iI (zAf.returns k9)))), (aMa, .inr (6, [.ref aMa_bytes, .int (bI zAg.written), .int (iI zAg.pages), .ref aMa_globals, .int (iI x_9.1.steps), .ref aWa, .ref aCo, .int (iI x_9.1.reason), .int (iI ((zCo.ends v_target.toNat) + 1)), .ref aMa_stack, .int (iI x_9.2.height), .ref aMa_functions, .ref aMa_bases, .ref aMa_returns, .int (iI zAf.depth), .int (iI zAf.variables), .int (iI zAf.values)])), (aMa_stack, .inl (cJ, 12096, .inr (.inl x_9.2.stack)))] := ⟨hP_8, hD_8⟩
      clear hP_8 hD_8
      obtain ⟨hP_8, hD_8⟩ := hQ9
      exact hJK_2 (KMa.mk x_9.1.steps x_9.1.reason ((zCo.ends v_target.toNat) + 1), x_9.2, zAf) ⟨(KMa.Ok.mk hx_9.1.steps hx_9.1.reason g_12 : KMa.Ok (KMa.mk x_9.1.steps x_9.1.reason ((zCo.ends v_target.toNat) + 1))), hx_9.2, hzAf⟩ hf _ _ (hP_8.sub [0, 1, 2, 3, 4, 5, 6, 7, 8, 9, 13, 14, 10, 11, 12] rfl) (hD_8.sub [0, 1, 2, 3, 4, 5, 6, 7, 8, 9, 13, 14, 10, 11, 12] (by decide +kernel) rfl) hS_8 _ (lv_sub hl [0, 1] rfl)
    · have c_5 := ((zv_eq (iI_t (hzCo.ops _)) (iI_t (show R32 (3) by decide)))).mp c_5
      replace hf := ifp c_5 hf
      refine lv_aload_n hx hb d_Ma_branch_24 rfl (lv_at hl 0 rfl) ?_
      refine lv_aload_n hx hb d_Ma_branch_25 rfl (lv_at hl 0 rfl) ?_
      refine va_get (D := G) (ci := 6) (v := .int (iI zAf.values)) (C := R_Ma) (T := F_Ma) (N := 17) hx hb hts i_Ma hown hK hP 10 rfl rfl 16 (by decide) (hts _ m_177) (fun _ h9 => h9) rfl d_Ma_branch_26 ?_
      refine lv_aload_n hx hb d_Ma_branch_29 rfl (lv_at hl 0 rfl) ?_
      refine va_get (D := G) (ci := 6) (v := .ref aCo) (C := R_Ma) (T := F_Ma) (N := 17) hx hb hts i_Ma hown hK hP 10 rfl rfl 6 (by decide) (hts _ m_167) (fun _ h9 => h9) rfl d_Ma_branch_30 ?_
      refine va_get (D := G) (ci := 9) (v := .ref aCo_heights) (C := R_Co) (T := F_Co) (N := 11) hx hb hts i_Co hown hK hP 0 rfl rfl 6 (by decide) (hts _ m_280) (fun _ h9 => h9) rfl d_Ma_branch_33 ?_
      refine lv_iload_n hx hb d_Ma_branch_36 rfl (lv_at hl 1 rfl) ?_
      replace hf := grd hnb hf
      obtain ⟨g_13, hf⟩ := hf
      refine va_iald hx hb hK hP 4 1 rfl rfl (vp_in_iI hv_target g_13) d_Ma_branch_37 ?_
      refine W.eq (g2 := F0 m 38 ls [.int (iI (zCt.heights v_target.toNat)), .int (iI zAf.values), .ref aMa]) (by rw [iI_clamp hv_target] <;> rfl) ?_
      refine lv_iadd hx hb d_Ma_branch_38 ?_
      refine lv_topi (fun x9 e9 => ?_)
      obtain rfl : x9 = iI (zAf.values + (zCt.heights v_target.toNat)) := e9.trans (iI_add _ _)
      replace hf := grd hnb hf
      obtain ⟨g_14, hf⟩ := hf
      refine va_put (D := G) (ci := 6) (v := .int (iI (zAf.values + (zCt.heights v_target.toNat)))) (ty := .int) (C := R_Ma) (T := F_Ma) (N := 17) hx hb hts i_Ma t_Ma t_Ma_ok n_Ma hown hK hP hD hS 10 rfl rfl 10 (by decide) (hts _ m_171) (fun _ h9 => h9) rfl (by decide +kernel) rfl rfl (Nat.le_of_ble_eq_true rfl) d_Ma_branch_39 (fun H_9 locs_9 hP_9 hD_9 hS_9 => ?_)
      clear hS hD hP
      have hQ9 : (fun w9 => va_P G classes w9 H_9 ∧ va_D A w9) [(aCo, .inr (9, [.int (iI zCo.size), .ref aCo_ops, .ref aCo_values, .ref aCo_extras, .ref aCo_ends, .ref aCo_elses, .ref aCo_heights, .ref aCo_targets, .int (iI zCo.labelCount), .ref aCo_labels, .ref aCo_labelTargets])), (aCo_ops, .inl (cI, 2000, .inl (fun k9 => iI (zCo.ops k9)))), (aCo_extras, .inl (cI, 2000, .inl (fun k9 => iI (zCo.extras k9)))), (aCo_ends, .inl (cI, 2000, .inl (fun k9 => iI (zCo.ends k9)))), (aCo_heights, .inl (cI, 2000, .inl (fun k9 => iI (zCt.heights k9)))), (aWa, .inr (7, [.int (iI zW1.typeCount), .ref aWa_parameterCounts, .ref aWa_parameters, .ref aWa_results, .int (iI zW3.functionCount), .ref aWa_functionTypes, .ref aWa_starts, .ref aWa_localCounts, .ref aWa_locals, .int (bI zW5.hasMemory), .long zW5.pagesAtFirst, .long zW5.pagesMost, .int (iI zW6.globalCount), .ref aWa_globalTypes, .ref aWa_globalsChange, .ref aWa_initialTypes, .ref aWa_initialValues, .ref aEx, .ref aCo])), (aWa_parameterCounts, .inl (cI, 20, .inl (fun k9 => iI (zW1.parameterCounts k9)))), (aWa_results, .inl (cI, 20, .inl (fun k9 => iI (zW1.results k9)))), (aWa_functionTypes, .inl (cI, 30, .inl (fun k9 => iI (zW3.functionTypes k9)))), (aWa_localCounts, .inl (cI, 30, .inl (fun k9 => iI (zWj.localCounts k9)))), (aMa, .inr (6, [.ref aMa_bytes, .int (bI zAg.written), .int (iI zAg.pages), .ref aMa_globals, .int (iI zMa.steps), .ref aWa, .ref aCo, .int (iI zMa.reason), .int (iI zMa.next), .ref aMa_stack, .int (iI (zAf.values + (zCt.heights v_target.toNat))), .ref aMa_functions, .ref aMa_bases, .ref aMa_returns, .int (iI zAf.depth), .int (iI zAf.variables), .int (iI zAf.values)])), (aMa_stack, .inl (cJ, 12096, .inr (.inl zAs.stack))), (aMa_functions, .inl (cI, 100, .inl (fun k9 => iI (zAf.functions k9)))), (aMa_bases, .inl (cI, 100, .inl (fun k9 => iI (zAf.bases k9)))), (aMa_returns, .inl (cI, 100, .inl (fun k9 => iI (zAf.returns k9))))] := ⟨hP_9, hD_9⟩
      clear hP_9 hD_9
      obtain ⟨hP_9, hD_9⟩ := hQ9
      refine lv_aload_n hx hb d_Ma_branch_42 rfl (lv_at hl 0 rfl) ?_
      refine lv_iload_n hx hb d_Ma_branch_43 rfl (lv_at hl 1 rfl) ?_
      refine lv_iconst (v := iI 1) hx hb d_Ma_branch_44 (by decide) ?_
      refine lv_iadd hx hb d_Ma_branch_45 ?_
      refine lv_topi (fun x9 e9 => ?_)
      obtain rfl : x9 = iI (v_target + 1) := e9.trans (iI_add _ _)
      replace hf := grd hnb hf
      obtain ⟨g_15, hf⟩ := hf
      refine va_put (D := G) (ci := 6) (v := .int (iI (v_target + 1))) (ty := .int) (C := R_Ma) (T := F_Ma) (N := 17) hx hb hts i_Ma t_Ma t_Ma_ok n_Ma hown hK hP_9 hD_9 hS_9 10 rfl rfl 8 (by decide) (hts _ m_169) (fun _ h9 => h9) rfl (by decide +kernel) rfl rfl (Nat.le_of_ble_eq_true rfl) d_Ma_branch_46 (fun H_10 locs_10 hP_10 hD_10 hS_10 => ?_)
      clear hS_9 hD_9 hP_9
      have hQ9 : (fun w9 => va_P G classes w9 H_10 ∧ va_D A w9) [(aCo, .inr (9, [.int (iI zCo.size), .ref aCo_ops, .ref aCo_values, .ref aCo_extras, .ref aCo_ends, .ref aCo_elses, .ref aCo_heights, .ref aCo_targets, .int (iI zCo.labelCount), .ref aCo_labels, .ref aCo_labelTargets])), (aCo_ops, .inl (cI, 2000, .inl (fun k9 => iI (zCo.ops k9)))), (aCo_extras, .inl (cI, 2000, .inl (fun k9 => iI (zCo.extras k9)))), (aCo_ends, .inl (cI, 2000, .inl (fun k9 => iI (zCo.ends k9)))), (aCo_heights, .inl (cI, 2000, .inl (fun k9 => iI (zCt.heights k9)))), (aWa, .inr (7, [.int (iI zW1.typeCount), .ref aWa_parameterCounts, .ref aWa_parameters, .ref aWa_results, .int (iI zW3.functionCount), .ref aWa_functionTypes, .ref aWa_starts, .ref aWa_localCounts, .ref aWa_locals, .int (bI zW5.hasMemory), .long zW5.pagesAtFirst, .long zW5.pagesMost, .int (iI zW6.globalCount), .ref aWa_globalTypes, .ref aWa_globalsChange, .ref aWa_initialTypes, .ref aWa_initialValues, .ref aEx, .ref aCo])), (aWa_parameterCounts, .inl (cI, 20, .inl (fun k9 => iI (zW1.parameterCounts k9)))), (aWa_results, .inl (cI, 20, .inl (fun k9 => iI (zW1.results k9)))), (aWa_functionTypes, .inl (cI, 30, .inl (fun k9 => iI (zW3.functionTypes k9)))), (aWa_localCounts, .inl (cI, 30, .inl (fun k9 => iI (zWj.localCounts k9)))), (aMa, .inr (6, [.ref aMa_bytes, .int (bI zAg.written), .int (iI zAg.pages), .ref aMa_globals, .int (iI zMa.steps), .ref aWa, .ref aCo, .int (iI zMa.reason), .int (iI (v_target + 1)), .ref aMa_stack, .int (iI (zAf.values + (zCt.heights v_target.toNat))), .ref aMa_functions, .ref aMa_bases, .ref aMa_returns, .int (iI zAf.depth), .int (iI zAf.variables), .int (iI zAf.values)])), (aMa_stack, .inl (cJ, 12096, .inr (.inl zAs.stack))), (aMa_functions, .inl (cI, 100, .inl (fun k9 => iI (zAf.functions k9)))), (aMa_bases, .inl (cI, 100, .inl (fun k9 => iI (zAf.bases k9)))), (aMa_returns, .inl (cI, 100, .inl (fun k9 => iI (zAf.returns k9))))] := ⟨hP_10, hD_10⟩
      clear hP_10 hD_10
      obtain ⟨hP_10, hD_10⟩ := hQ9
      refine lv_goto (tgt := 94) hx hb d_Ma_branch_49 (by decide) ?_
      exact hJK_2 (KMa.mk zMa.steps zMa.reason (v_target + 1), KAs.mk zAs.stack (zAf.values + (zCt.heights v_target.toNat)), zAf) ⟨(KMa.Ok.mk hzMa.steps hzMa.reason g_15 : KMa.Ok (KMa.mk zMa.steps zMa.reason (v_target + 1))), (KAs.Ok.mk g_14 : KAs.Ok (KAs.mk zAs.stack (zAf.values + (zCt.heights v_target.toNat)))), hzAf⟩ hf _ _ hP_10 hD_10 hS_10 _ (lv_sub hl [0, 1] rfl)
  · have c_3 := (fun q9 => c_3 (((zv_le zero_v (iI_t hv_target))).mpr q9))
    replace hf := ifn c_3 hf
    refine lv_aload_n hx hb d_Ma_branch_4 rfl (lv_at hl 0 rfl) ?_
    replace hf := obE hnb hf
    obtain ⟨x_16, e_17, hf⟩ := hf
    refine xx_callV (wc := [(aWa, .inr (7, [.int (iI zW1.typeCount), .ref aWa_parameterCounts, .ref aWa_parameters, .ref aWa_results, .int (iI zW3.functionCount), .ref aWa_functionTypes, .ref aWa_starts, .ref aWa_localCounts, .ref aWa_locals, .int (bI zW5.hasMemory), .long zW5.pagesAtFirst, .long zW5.pagesMost, .int (iI zW6.globalCount), .ref aWa_globalTypes, .ref aWa_globalsChange, .ref aWa_initialTypes, .ref aWa_initialValues, .ref aEx, .ref aCo])), (aWa_parameterCounts, .inl (cI, 20, .inl (fun k9 => iI (zW1.parameterCounts k9)))), (aWa_results, .inl (cI, 20, .inl (fun k9 => iI (zW1.results k9)))), (aWa_functionTypes, .inl (cI, 30, .inl (fun k9 => iI (zW3.functionTypes k9)))), (aWa_localCounts, .inl (cI, 30, .inl (fun k9 => iI (zWj.localCounts k9)))), (aMa, .inr (6, [.ref aMa_bytes, .int (bI zAg.written), .int (iI zAg.pages), .ref aMa_globals, .int (iI zMa.steps), .ref aWa, .ref aCo, .int (iI zMa.reason), .int (iI zMa.next), .ref aMa_stack, .int (iI zAs.height), .ref aMa_functions, .ref aMa_bases, .ref aMa_returns, .int (iI zAf.depth), .int (iI zAf.variables), .int (iI zAf.values)])), (aMa_stack, .inl (cJ, 12096, .inr (.inl zAs.stack))), (aMa_functions, .inl (cI, 100, .inl (fun k9 => iI (zAf.functions k9)))), (aMa_bases, .inl (cI, 100, .inl (fun k9 => iI (zAf.bases k9)))), (aMa_returns, .inl (cI, 100, .inl (fun k9 => iI (zAf.returns k9))))]) (wr := [(aCo, .inr (9, [.int (iI zCo.size), .ref aCo_ops, .ref aCo_values, .ref aCo_extras, .ref aCo_ends, .ref aCo_elses, .ref aCo_heights, .ref aCo_targets, .int (iI zCo.labelCount), .ref aCo_labels, .ref aCo_labelTargets])), (aCo_ops, .inl (cI, 2000, .inl (fun k9 => iI (zCo.ops k9)))), (aCo_extras, .inl (cI, 2000, .inl (fun k9 => iI (zCo.extras k9)))), (aCo_ends, .inl (cI, 2000, .inl (fun k9 => iI (zCo.ends k9)))), (aCo_heights, .inl (cI, 2000, .inl (fun k9 => iI (zCt.heights k9))))]) (As := []) (rest := []) ⟨hx, hb, hml, hown, hts⟩ xE_st hK hE hA (k_Ma_leave l htr G cB cI cJ cZ cG aWa aWa_parameterCounts aWa_parameters aWa_results aWa_functionTypes aWa_starts aWa_localCounts aWa_locals aWa_globalTypes aWa_globalsChange aWa_initialTypes aWa_initialValues aEx aCo aMa aMa_bytes aMa_globals aMa_stack aMa_functions aMa_bases aMa_returns zW1 zW3 zWj zW5 zW6 zAg zMa zAs zAf hzW1 hzW3 hzWj hzW5 hzW6 hzAg hzMa hzAs hzAf (.ret x_16) e_17 ret_nb _) (xw_V 0 hts m_961 m_963 ms_Ma_leave m_7 m_964 (by decide +kernel) ⟨(Nat.le_of_ble_eq_true rfl), (Nat.le_of_ble_eq_true rfl)⟩) hP hD hS [5, 6, 7, 8, 9, 10, 11, 12, 13, 14] [0, 1, 2, 3, 4] rfl rfl (by decide +kernel) (by decide +kernel) (by decide +kernel) 5 6 rfl rfl rfl rfl hl.1 rfl (Nat.le_of_ble_eq_true rfl) d_Ma_branch_5 ⟨(Nat.le_of_ble_eq_true rfl), (Nat.le_of_ble_eq_true rfl)⟩ (fun v9 w9 H_11 locs_11 hp hP_11 hD_11 hS_11 => ?_) (fun x9 w9 H9 l9 hp _ _ _ => absurd hp (fun q9 => by obtain ⟨-, ho, -⟩ := q9; cases ho))
    clear hS hD hP
    obtain ⟨hx_16, ho, rfl⟩ := hp
    cases ho
    have hQ9 : (fun w9 => va_P G classes w9 H_11 ∧ va_D A w9) [(aCo, .inr (9, [.int (iI zCo.size), .ref aCo_ops, .ref aCo_values, .ref aCo_extras, .ref aCo_ends, .ref aCo_elses, .ref aCo_heights, .ref aCo_targets, .int (iI zCo.labelCount), .ref aCo_labels, .ref aCo_labelTargets])), (aCo_ops, .inl (cI, 2000, .inl (fun k9 => iI (zCo.ops k9)))), (aCo_extras, .inl (cI, 2000, .inl (fun k9 => iI (zCo.extras k9)))), (aCo_ends, .inl (cI, 2000, .inl (fun k9 => iI (zCo.ends k9)))), (aCo_heights, .inl (cI, 2000, .inl (fun k9 => iI (zCt.heights k9)))), (aWa, .inr (7, [.int (iI zW1.typeCount), .ref aWa_parameterCounts, .ref aWa_parameters, .ref aWa_results, .int (iI zW3.functionCount), .ref aWa_functionTypes, .ref aWa_starts, .ref aWa_localCounts, .ref aWa_locals, .int (bI zW5.hasMemory), .long zW5.pagesAtFirst, .long zW5.pagesMost, .int (iI zW6.globalCount), .ref aWa_globalTypes, .ref aWa_globalsChange, .ref aWa_initialTypes, .ref aWa_initialValues, .ref aEx, .ref aCo])), (aWa_parameterCounts, .inl (cI, 20, .inl (fun k9 => iI (zW1.parameterCounts k9)))), (aWa_results, .inl (cI, 20, .inl (fun k9 => iI (zW1.results k9)))), (aWa_functionTypes, .inl (cI, 30, .inl (fun k9 => iI (zW3.functionTypes k9)))), (aWa_localCounts, .inl (cI, 30, .inl (fun k9 => iI (zWj.localCounts k9)))), (aMa, .inr (6, [.ref aMa_bytes, .int (bI zAg.written), .int (iI zAg.pages), .ref aMa_globals, .int (iI x_16.1.steps), .ref aWa, .ref aCo, .int (iI x_16.1.reason), .int (iI x_16.1.next), .ref aMa_stack, .int (iI x_16.2.1.height), .ref aMa_functions, .ref aMa_bases, .ref aMa_returns, .int (iI x_16.2.2.depth), .int (iI x_16.2.2.variables), .int (iI x_16.2.2.values)])), (aMa_stack, .inl (cJ, 12096, .inr (.inl x_16.2.1.stack))), (aMa_functions, .inl (cI, 100, .inl (fun k9 => iI (x_16.2.2.functions k9)))), (aMa_bases, .inl (cI, 100, .inl (fun k9 => iI (x_16.2.2.bases k9)))), (aMa_returns, .inl (cI, 100, .inl (fun k9 => iI (x_16.2.2.returns k9))))] := ⟨hP_11, hD_11⟩
    clear hP_11 hD_11
    obtain ⟨hP_11, hD_11⟩ := hQ9
    refine lv_goto (tgt := 94) hx hb d_Ma_branch_8 (by decide) ?_
    exact hJK_2 (x_16.1, x_16.2.1, x_16.2.2) ⟨hx_16.1, hx_16.2.1, hx_16.2.2⟩ hf _ _ hP_11 hD_11 hS_11 _ (lv_sub hl [0, 1] rfl)
set_option maxHeartbeats 8000000 in
set_option maxRecDepth 100000 in
theorem k_Ma_grow (l : Launch) (htr : l.stackTraces = false) (G : va_G) (cB cI cJ cZ cG : ClassId) (aWa : Nat) (aWa_parameterCounts : Nat) (aWa_parameters : Nat) (aWa_results : Nat) (aWa_functionTypes : Nat) (aWa_starts : Nat) (aWa_localCounts : Nat) (aWa_locals : Nat) (aWa_globalTypes : Nat) (aWa_globalsChange : Nat) (aWa_initialTypes : Nat) (aWa_initialValues : Nat) (aEx : Nat) (aCo : Nat) (aMa : Nat) (aMa_bytes : Nat) (aMa_globals : Nat) (aMa_stack : Nat) (aMa_functions : Nat) (aMa_bases : Nat) (aMa_returns : Nat) (zW1 : KW1) (zW3 : KW3) (zW5 : KW5) (zW6 : KW6) (zAg : KAg) (zMa : KMa) (zAs : KAs) (zAf : KAf) (hzW1 : KW1.Ok zW1) (hzW3 : KW3.Ok zW3) (hzW5 : KW5.Ok zW5) (hzW6 : KW6.Ok zW6) (hzAg : KAg.Ok zAg) (hzMa : KMa.Ok zMa) (hzAs : KAs.Ok zAs) (hzAf : KAf.Ok zAf) (v_more : Int64) (R9 : Out Empty (KAg × KMa × KAs)) (hf : f_Ma_grow zW5 zAg zMa zAs v_more = R9) (hnb : R9 ≠ .bad) (sz : Nat) : MetX l y_Ma_grow (wx y_Ma_grow b_Ma_grow 3 none) { frames := 1, cells := 0, slots := 0, locals := 22 } (XP G classes (xtys cB cI cJ cZ cG) xE [.ref aMa, .long v_more] [(aWa, .inr (7, [.int (iI zW1.typeCount), .ref aWa_parameterCounts, .ref aWa_parameters, .ref aWa_results, .int (iI zW3.functionCount), .ref aWa_functionTypes, .ref aWa_starts, .ref aWa_localCounts, .ref aWa_locals, .int (bI zW5.hasMemory), .long zW5.pagesAtFirst, .long zW5.pagesMost, .int (iI zW6.globalCount), .ref aWa_globalTypes, .ref aWa_globalsChange, .ref aWa_initialTypes, .ref aWa_initialValues, .ref aEx, .ref aCo])), (aMa, .inr (6, [.ref aMa_bytes, .int (bI zAg.written), .int (iI zAg.pages), .ref aMa_globals, .int (iI zMa.steps), .ref aWa, .ref aCo, .int (iI zMa.reason), .int (iI zMa.next), .ref aMa_stack, .int (iI zAs.height), .ref aMa_functions, .ref aMa_bases, .ref aMa_returns, .int (iI zAf.depth), .int (iI zAf.variables), .int (iI zAf.values)])), (aMa_globals, .inl (cJ, 20, .inr (.inl zAg.globals))), (aMa_stack, .inl (cJ, 12096, .inr (.inl zAs.stack)))] sz) (XQ G classes (va_A [(aWa, .inr (7, [.int (iI zW1.typeCount), .ref aWa_parameterCounts, .ref aWa_parameters, .ref aWa_results, .int (iI zW3.functionCount), .ref aWa_functionTypes, .ref aWa_starts, .ref aWa_localCounts, .ref aWa_locals, .int (bI zW5.hasMemory), .long zW5.pagesAtFirst, .long zW5.pagesMost, .int (iI zW6.globalCount), .ref aWa_globalTypes, .ref aWa_globalsChange, .ref aWa_initialTypes, .ref aWa_initialValues, .ref aEx, .ref aCo])), (aMa, .inr (6, [.ref aMa_bytes, .int (bI zAg.written), .int (iI zAg.pages), .ref aMa_globals, .int (iI zMa.steps), .ref aWa, .ref aCo, .int (iI zMa.reason), .int (iI zMa.next), .ref aMa_stack, .int (iI zAs.height), .ref aMa_functions, .ref aMa_bases, .ref aMa_returns, .int (iI zAf.depth), .int (iI zAf.variables), .int (iI zAf.values)])), (aMa_globals, .inl (cJ, 20, .inr (.inl zAg.globals))), (aMa_stack, .inl (cJ, 12096, .inr (.inl zAs.stack)))] sz) (fun o w1 => ozp R9 (fun x9 => (KAg.Ok x9.1 ∧ KMa.Ok x9.2.1 ∧ KAs.Ok x9.2.2) ∧ o = .returned none ∧ w1 = [(aWa, .inr (7, [.int (iI zW1.typeCount), .ref aWa_parameterCounts, .ref aWa_parameters, .ref aWa_results, .int (iI zW3.functionCount), .ref aWa_functionTypes, .ref aWa_starts, .ref aWa_localCounts, .ref aWa_locals, .int (bI zW5.hasMemory), .long zW5.pagesAtFirst, .long zW5.pagesMost, .int (iI zW6.globalCount), .ref aWa_globalTypes, .ref aWa_globalsChange, .ref aWa_initialTypes, .ref aWa_initialValues, .ref aEx, .ref aCo])), (aMa, .inr (6, [.ref aMa_bytes, .int (bI x9.1.written), .int (iI x9.1.pages), .ref aMa_globals, .int (iI x9.2.1.steps), .ref aWa, .ref aCo, .int (iI x9.2.1.reason), .int (iI x9.2.1.next), .ref aMa_stack, .int (iI x9.2.2.height), .ref aMa_functions, .ref aMa_bases, .ref aMa_returns, .int (iI zAf.depth), .int (iI zAf.variables), .int (iI zAf.values)])), (aMa_globals, .inl (cJ, 20, .inr (.inl x9.1.globals))), (aMa_stack, .inl (cJ, 12096, .inr (.inl x9.2.2.stack)))]) (fun _ => False))) 0 0 (va_A [(aWa, .inr (7, [.int (iI zW1.typeCount), .ref aWa_parameterCounts, .ref aWa_parameters, .ref aWa_results, .int (iI zW3.functionCount), .ref aWa_functionTypes, .ref aWa_starts, .ref aWa_localCounts, .ref aWa_locals, .int (bI zW5.hasMemory), .long zW5.pagesAtFirst, .long zW5.pagesMost, .int (iI zW6.globalCount), .ref aWa_globalTypes, .ref aWa_globalsChange, .ref aWa_initialTypes, .ref aWa_initialValues, .ref aEx, .ref aCo])), (aMa, .inr (6, [.ref aMa_bytes, .int (bI zAg.written), .int (iI zAg.pages), .ref aMa_globals, .int (iI zMa.steps), .ref aWa, .ref aCo, .int (iI zMa.reason), .int (iI zMa.next), .ref aMa_stack, .int (iI zAs.height), .ref aMa_functions, .ref aMa_bases, .ref aMa_returns, .int (iI zAf.depth), .int (iI zAf.variables), .int (iI zAf.values)])), (aMa_globals, .inl (cJ, 20, .inr (.inl zAg.globals))), (aMa_stack, .inl (cJ, 12096, .inr (.inl zAs.stack)))] sz) := by
  refine ex_ofW (cc := b_Ma_grow) (maxL := 3) (ret := none) (by decide) rfl ?_
  intro p e s m args below meth c s₁ B hml hno hv
  obtain ⟨rfl, hsz, hP, hK, hD0, hE⟩ := hv
  have hx := B.exec
  have hb := B.bytes
  have hr := B.returns
  have hts : ∀ w ∈ lw_good, w.before _ s = true := fun w h => atoms_spec (ws := wx y_Ma_grow b_Ma_grow 3 none) B.pre w (List.mem_cons_of_mem _ h)
  have hown : s.vm.findClass R_Ma = some m.cls := findClass_of_methodNamed B.named
  have hlocks := B.notSynchronized
  subst hsz
  have hNS := xx_nostat hP
  have hD := hD0.self (sz := s.heap.size)
  generalize hAe : va_A [(aWa, .inr (7, [.int (iI zW1.typeCount), .ref aWa_parameterCounts, .ref aWa_parameters, .ref aWa_results, .int (iI zW3.functionCount), .ref aWa_functionTypes, .ref aWa_starts, .ref aWa_localCounts, .ref aWa_locals, .int (bI zW5.hasMemory), .long zW5.pagesAtFirst, .long zW5.pagesMost, .int (iI zW6.globalCount), .ref aWa_globalTypes, .ref aWa_globalsChange, .ref aWa_initialTypes, .ref aWa_initialValues, .ref aEx, .ref aCo])), (aMa, .inr (6, [.ref aMa_bytes, .int (bI zAg.written), .int (iI zAg.pages), .ref aMa_globals, .int (iI zMa.steps), .ref aWa, .ref aCo, .int (iI zMa.reason), .int (iI zMa.next), .ref aMa_stack, .int (iI zAs.height), .ref aMa_functions, .ref aMa_bases, .ref aMa_returns, .int (iI zAf.depth), .int (iI zAf.variables), .int (iI zAf.values)])), (aMa_globals, .inl (cJ, 20, .inr (.inl zAg.globals))), (aMa_stack, .inl (cJ, 12096, .inr (.inl zAs.stack)))] s.heap.size = A at hD hE hNS ⊢
  have hA : ∀ q : Nat, s.heap.size ≤ q → A q := fun q h => by rw [← hAe]; exact Or.inr h
  have hS : va_S A s.heap s.heap [] := va_S.rf
  have hl := lv_entry ([.ref aMa, .long v_more]) (n := 3) (Nat.le_of_ble_eq_true rfl)
  rw [lg_entry_eq]
  generalize (lg_sl ([.ref aMa, .long v_more]) ++ List.replicate (3 - (lg_sl ([.ref aMa, .long v_more])).length) Slot.unset).toArray = ls at hl ⊢
  have hl : lv_has ls 3 [(0, .ref aMa), (1, .long v_more)] := hl
  unfold f_Ma_grow at hf
  refine lv_aload_n hx hb d_Ma_grow_0 rfl (lv_at hl 0 rfl) ?_
  refine va_get (D := G) (ci := 6) (v := .int (iI zAg.pages)) (C := R_Ma) (T := F_Ma) (N := 17) hx hb hts i_Ma hown hK hP 1 rfl rfl 2 (by decide) (hts _ m_160) (fun _ h9 => h9) rfl d_Ma_grow_1 ?_
  refine lv_i2l hx hb d_Ma_grow_4 rfl ?_
  refine lv_lload_n hx hb d_Ma_grow_5 rfl (lv_at hl 1 rfl) ?_
  refine lv_ladd hx hb d_Ma_grow_6 ?_
  refine lv_aload_n hx hb d_Ma_grow_7 rfl (lv_at hl 0 rfl) ?_
  refine va_get (D := G) (ci := 6) (v := .ref aWa) (C := R_Ma) (T := F_Ma) (N := 17) hx hb hts i_Ma hown hK hP 1 rfl rfl 5 (by decide) (hts _ m_166) (fun _ h9 => h9) rfl d_Ma_grow_8 ?_
  refine va_get (D := G) (ci := 7) (v := .long zW5.pagesMost) (C := R_Wa) (T := F_Wa) (N := 19) hx hb hts i_Wa hown hK hP 0 rfl rfl 11 (by decide) (hts _ m_351) (fun _ h9 => h9) rfl d_Ma_grow_11 ?_
  refine lv_ldc2 (v := 2) hx hb hown (hts _ m_1007) d_Ma_grow_14 ?_
  refine va_mmin_long hx hb (hml.trans hl.1.symm) hown (hts _ m_988) (hts _ m_989) (hts _ m_19) (hts _ m_990) (Nat.le_of_ble_eq_true rfl) (Nat.le_of_ble_eq_true rfl) (Nat.le_of_ble_eq_true rfl) (Nat.le_of_ble_eq_true rfl) d_Ma_grow_17 ?_
  refine lv_topl (fun x9 e9 => ?_)
  obtain rfl : x9 = mnL zW5.pagesMost 2 := e9.trans (mnL_i _ _)
  refine W.lcmp hx hb d_Ma_grow_20 ?_
  refine lv_if_le (tgt := 32) hx hb d_Ma_grow_21 (by decide) (fun c_1 => ?_) (fun c_1 => ?_)
  · have c_1 := (lc_le).mp c_1
    replace hf := ifp c_1 hf
    refine lv_aload_n hx hb d_Ma_grow_32 rfl (lv_at hl 0 rfl) ?_
    refine lv_aload_n hx hb d_Ma_grow_33 rfl (lv_at hl 0 rfl) ?_
    refine va_get (D := G) (ci := 6) (v := .int (iI zAg.pages)) (C := R_Ma) (T := F_Ma) (N := 17) hx hb hts i_Ma hown hK hP 1 rfl rfl 2 (by decide) (hts _ m_160) (fun _ h9 => h9) rfl d_Ma_grow_34 ?_
    refine lv_i2l hx hb d_Ma_grow_37 rfl ?_
    replace hf := obE hnb hf
    obtain ⟨x_2, e_3, hf⟩ := hf
    refine xx_callV (wc := [(aMa, .inr (6, [.ref aMa_bytes, .int (bI zAg.written), .int (iI zAg.pages), .ref aMa_globals, .int (iI zMa.steps), .ref aWa, .ref aCo, .int (iI zMa.reason), .int (iI zMa.next), .ref aMa_stack, .int (iI zAs.height), .ref aMa_functions, .ref aMa_bases, .ref aMa_returns, .int (iI zAf.depth), .int (iI zAf.variables), .int (iI zAf.values)])), (aMa_stack, .inl (cJ, 12096, .inr (.inl zAs.stack)))]) (wr := [(aWa, .inr (7, [.int (iI zW1.typeCount), .ref aWa_parameterCounts, .ref aWa_parameters, .ref aWa_results, .int (iI zW3.functionCount), .ref aWa_functionTypes, .ref aWa_starts, .ref aWa_localCounts, .ref aWa_locals, .int (bI zW5.hasMemory), .long zW5.pagesAtFirst, .long zW5.pagesMost, .int (iI zW6.globalCount), .ref aWa_globalTypes, .ref aWa_globalsChange, .ref aWa_initialTypes, .ref aWa_initialValues, .ref aEx, .ref aCo])), (aMa_globals, .inl (cJ, 20, .inr (.inl zAg.globals)))]) (As := [.long ((iI zAg.pages).toInt64)]) (rest := []) ⟨hx, hb, hml, hown, hts⟩ xE_st hK hE hA (k_Ma_push l htr G cB cI cJ cZ cG aMa aMa_bytes aMa_globals aWa aCo aMa_stack aMa_functions aMa_bases aMa_returns zAg zMa zAs zAf hzAg hzMa hzAs hzAf ((iI zAg.pages).toInt64) (.ret x_2) e_3 ret_nb _) (xw_V 1 hts m_952 m_954 ms_Ma_push m_7 m_955 (by decide +kernel) ⟨(Nat.le_of_ble_eq_true rfl), (Nat.le_of_ble_eq_true rfl)⟩) hP hD hS [1, 3] [0, 2] rfl rfl (by decide +kernel) (by decide +kernel) (by decide +kernel) 0 6 rfl rfl rfl rfl hl.1 rfl (Nat.le_of_ble_eq_true rfl) d_Ma_grow_38 ⟨(Nat.le_of_ble_eq_true rfl), (Nat.le_of_ble_eq_true rfl)⟩ (fun v9 w9 H_1 locs_1 hp hP_1 hD_1 hS_1 => ?_) (fun x9 w9 H9 l9 hp _ _ _ => absurd hp (fun q9 => by obtain ⟨-, ho, -⟩ := q9; cases ho))
    clear hS hD hP
    obtain ⟨hx_2, ho, rfl⟩ := hp
    cases ho
    have hQ9 : (fun w9 => va_P G classes w9 H_1 ∧ va_D A w9) [(aWa, .inr (7, [.int (iI zW1.typeCount), .ref aWa_parameterCounts, .ref aWa_parameters, .ref aWa_results, .int (iI zW3.functionCount), .ref aWa_functionTypes, .ref aWa_starts, .ref aWa_localCounts, .ref aWa_locals, .int (bI zW5.hasMemory), .long zW5.pagesAtFirst, .long zW5.pagesMost, .int (iI zW6.globalCount), .ref aWa_globalTypes, .ref aWa_globalsChange, .ref aWa_initialTypes, .ref aWa_initialValues, .ref aEx, .ref aCo])), (aMa_globals, .inl (cJ, 20, .inr (.inl zAg.globals))), (aMa, .inr (6, [.ref aMa_bytes, .int (bI zAg.written), .int (iI zAg.pages), .ref aMa_globals, .int (iI x_2.1.steps), .ref aWa, .ref aCo, .int (iI x_2.1.reason), .int (iI x_2.1.next), .ref aMa_stack, .int (iI x_2.2.height), .ref aMa_functions, .ref aMa_bases, .ref aMa_returns, .int (iI zAf.depth), .int (iI zAf.variables), .int (iI zAf.values)])), (aMa_stack, .inl (cJ, 12096, .inr (.inl x_2.2.stack)))] := ⟨hP_1, hD_1⟩
    clear hP_1 hD_1
    obtain ⟨hP_1, hD_1⟩ := hQ9
    refine lv_aload_n hx hb d_Ma_grow_41 rfl (lv_at hl 0 rfl) ?_
    refine lv_dup hx hb d_Ma_grow_42 rfl ?_
    refine va_get (D := G) (ci := 6) (v := .int (iI zAg.pages)) (C := R_Ma) (T := F_Ma) (N := 17) hx hb hts i_Ma hown hK hP_1 2 rfl rfl 2 (by decide) (hts _ m_160) (fun _ h9 => h9) rfl d_Ma_grow_43 ?_
    refine lv_lload_n hx hb d_Ma_grow_46 rfl (lv_at hl 1 rfl) ?_
    refine lv_l2i hx hb d_Ma_grow_47 rfl ?_
    refine lv_iadd hx hb d_Ma_grow_48 ?_
    refine W.eq (g2 := F0 m 49 ls [.int (iI (((iI zAg.pages) + v_more.toInt32).toInt)), .ref aMa]) (by rw [← iI_of ((iI zAg.pages) + v_more.toInt32)] <;> rfl) ?_
    refine va_put (D := G) (ci := 6) (v := .int (iI (((iI zAg.pages) + v_more.toInt32).toInt))) (ty := .int) (C := R_Ma) (T := F_Ma) (N := 17) hx hb hts i_Ma t_Ma t_Ma_ok n_Ma hown hK hP_1 hD_1 hS_1 2 rfl rfl 2 (by decide) (hts _ m_160) (fun _ h9 => h9) rfl (by decide +kernel) rfl rfl (Nat.le_of_ble_eq_true rfl) d_Ma_grow_49 (fun H_2 locs_2 hP_2 hD_2 hS_2 => ?_)
    clear hS_1 hD_1 hP_1
    have hQ9 : (fun w9 => va_P G classes w9 H_2 ∧ va_D A w9) [(aWa, .inr (7, [.int (iI zW1.typeCount), .ref aWa_parameterCounts, .ref aWa_parameters, .ref aWa_results, .int (iI zW3.functionCount), .ref aWa_functionTypes, .ref aWa_starts, .ref aWa_localCounts, .ref aWa_locals, .int (bI zW5.hasMemory), .long zW5.pagesAtFirst, .long zW5.pagesMost, .int (iI zW6.globalCount), .ref aWa_globalTypes, .ref aWa_globalsChange, .ref aWa_initialTypes, .ref aWa_initialValues, .ref aEx, .ref aCo])), (aMa_globals, .inl (cJ, 20, .inr (.inl zAg.globals))), (aMa, .inr (6, [.ref aMa_bytes, .int (bI zAg.written), .int (iI (((iI zAg.pages) + v_more.toInt32).toInt)), .ref aMa_globals, .int (iI x_2.1.steps), .ref aWa, .ref aCo, .int (iI x_2.1.reason), .int (iI x_2.1.next), .ref aMa_stack, .int (iI x_2.2.height), .ref aMa_functions, .ref aMa_bases, .ref aMa_returns, .int (iI zAf.depth), .int (iI zAf.variables), .int (iI zAf.values)])), (aMa_stack, .inl (cJ, 12096, .inr (.inl x_2.2.stack)))] := ⟨hP_2, hD_2⟩
    clear hP_2 hD_2
    obtain ⟨hP_2, hD_2⟩ := hQ9
    have hP_2 := hP_2.sub (ws' := [(aWa, .inr (7, [.int (iI zW1.typeCount), .ref aWa_parameterCounts, .ref aWa_parameters, .ref aWa_results, .int (iI zW3.functionCount), .ref aWa_functionTypes, .ref aWa_starts, .ref aWa_localCounts, .ref aWa_locals, .int (bI zW5.hasMemory), .long zW5.pagesAtFirst, .long zW5.pagesMost, .int (iI zW6.globalCount), .ref aWa_globalTypes, .ref aWa_globalsChange, .ref aWa_initialTypes, .ref aWa_initialValues, .ref aEx, .ref aCo])), (aMa, .inr (6, [.ref aMa_bytes, .int (bI zAg.written), .int (iI (((iI zAg.pages) + v_more.toInt32).toInt)), .ref aMa_globals, .int (iI x_2.1.steps), .ref aWa, .ref aCo, .int (iI x_2.1.reason), .int (iI x_2.1.next), .ref aMa_stack, .int (iI x_2.2.height), .ref aMa_functions, .ref aMa_bases, .ref aMa_returns, .int (iI zAf.depth), .int (iI zAf.variables), .int (iI zAf.values)])), (aMa_globals, .inl (cJ, 20, .inr (.inl zAg.globals))), (aMa_stack, .inl (cJ, 12096, .inr (.inl x_2.2.stack)))]) [0, 2, 1, 3] rfl
    have hD_2 := hD_2.sub (ws' := [(aWa, .inr (7, [.int (iI zW1.typeCount), .ref aWa_parameterCounts, .ref aWa_parameters, .ref aWa_results, .int (iI zW3.functionCount), .ref aWa_functionTypes, .ref aWa_starts, .ref aWa_localCounts, .ref aWa_locals, .int (bI zW5.hasMemory), .long zW5.pagesAtFirst, .long zW5.pagesMost, .int (iI zW6.globalCount), .ref aWa_globalTypes, .ref aWa_globalsChange, .ref aWa_initialTypes, .ref aWa_initialValues, .ref aEx, .ref aCo])), (aMa, .inr (6, [.ref aMa_bytes, .int (bI zAg.written), .int (iI (((iI zAg.pages) + v_more.toInt32).toInt)), .ref aMa_globals, .int (iI x_2.1.steps), .ref aWa, .ref aCo, .int (iI x_2.1.reason), .int (iI x_2.1.next), .ref aMa_stack, .int (iI x_2.2.height), .ref aMa_functions, .ref aMa_bases, .ref aMa_returns, .int (iI zAf.depth), .int (iI zAf.variables), .int (iI zAf.values)])), (aMa_globals, .inl (cJ, 20, .inr (.inl zAg.globals))), (aMa_stack, .inl (cJ, 12096, .inr (.inl x_2.2.stack)))]) [0, 2, 1, 3] (by decide +kernel) rfl
    exact ex_W (fun _ h => ex_mq h) (W.vret hx hb hr (fun t ht hW => ⟨⟨_, ozr hf ⟨⟨(KAg.Ok.mk (R32_of _) : KAg.Ok (KAg.mk zAg.written (((iI zAg.pages) + v_more.toInt32).toInt) zAg.globals)), hx_2.1, hx_2.2⟩, rfl, rfl⟩, by rw [ht]; exact hP_2, hD_2⟩, hS_2.F ht⟩) hS_2.2.2 d_Ma_grow_52)
  · have c_1 := (fun q9 => c_1 ((lc_le).mpr q9))
    replace hf := ifn c_1 hf
    refine lv_aload_n hx hb d_Ma_grow_24 rfl (lv_at hl 0 rfl) ?_
    refine lv_ldc2 (v := (-1)) hx hb hown (hts _ m_1008) d_Ma_grow_25 ?_
    replace hf := obE hnb hf
    obtain ⟨x_4, e_5, hf⟩ := hf
    refine xx_callV (wc := [(aMa, .inr (6, [.ref aMa_bytes, .int (bI zAg.written), .int (iI zAg.pages), .ref aMa_globals, .int (iI zMa.steps), .ref aWa, .ref aCo, .int (iI zMa.reason), .int (iI zMa.next), .ref aMa_stack, .int (iI zAs.height), .ref aMa_functions, .ref aMa_bases, .ref aMa_returns, .int (iI zAf.depth), .int (iI zAf.variables), .int (iI zAf.values)])), (aMa_stack, .inl (cJ, 12096, .inr (.inl zAs.stack)))]) (wr := [(aWa, .inr (7, [.int (iI zW1.typeCount), .ref aWa_parameterCounts, .ref aWa_parameters, .ref aWa_results, .int (iI zW3.functionCount), .ref aWa_functionTypes, .ref aWa_starts, .ref aWa_localCounts, .ref aWa_locals, .int (bI zW5.hasMemory), .long zW5.pagesAtFirst, .long zW5.pagesMost, .int (iI zW6.globalCount), .ref aWa_globalTypes, .ref aWa_globalsChange, .ref aWa_initialTypes, .ref aWa_initialValues, .ref aEx, .ref aCo])), (aMa_globals, .inl (cJ, 20, .inr (.inl zAg.globals)))]) (As := [.long (-1)]) (rest := []) ⟨hx, hb, hml, hown, hts⟩ xE_st hK hE hA (k_Ma_push l htr G cB cI cJ cZ cG aMa aMa_bytes aMa_globals aWa aCo aMa_stack aMa_functions aMa_bases aMa_returns zAg zMa zAs zAf hzAg hzMa hzAs hzAf (-1) (.ret x_4) e_5 ret_nb _) (xw_V 1 hts m_952 m_954 ms_Ma_push m_7 m_955 (by decide +kernel) ⟨(Nat.le_of_ble_eq_true rfl), (Nat.le_of_ble_eq_true rfl)⟩) hP hD hS [1, 3] [0, 2] rfl rfl (by decide +kernel) (by decide +kernel) (by decide +kernel) 0 6 rfl rfl rfl rfl hl.1 rfl (Nat.le_of_ble_eq_true rfl) d_Ma_grow_28 ⟨(Nat.le_of_ble_eq_true rfl), (Nat.le_of_ble_eq_true rfl)⟩ (fun v9 w9 H_3 locs_3 hp hP_3 hD_3 hS_3 => ?_) (fun x9 w9 H9 l9 hp _ _ _ => absurd hp (fun q9 => by obtain ⟨-, ho, -⟩ := q9; cases ho))
    clear hS hD hP
    obtain ⟨hx_4, ho, rfl⟩ := hp
    cases ho
    have hQ9 : (fun w9 => va_P G classes w9 H_3 ∧ va_D A w9) [(aWa, .inr (7, [.int (iI zW1.typeCount), .ref aWa_parameterCounts, .ref aWa_parameters, .ref aWa_results, .int (iI zW3.functionCount), .ref aWa_functionTypes, .ref aWa_starts, .ref aWa_localCounts, .ref aWa_locals, .int (bI zW5.hasMemory), .long zW5.pagesAtFirst, .long zW5.pagesMost, .int (iI zW6.globalCount), .ref aWa_globalTypes, .ref aWa_globalsChange, .ref aWa_initialTypes, .ref aWa_initialValues, .ref aEx, .ref aCo])), (aMa_globals, .inl (cJ, 20, .inr (.inl zAg.globals))), (aMa, .inr (6, [.ref aMa_bytes, .int (bI zAg.written), .int (iI zAg.pages), .ref aMa_globals, .int (iI x_4.1.steps), .ref aWa, .ref aCo, .int (iI x_4.1.reason), .int (iI x_4.1.next), .ref aMa_stack, .int (iI x_4.2.height), .ref aMa_functions, .ref aMa_bases, .ref aMa_returns, .int (iI zAf.depth), .int (iI zAf.variables), .int (iI zAf.values)])), (aMa_stack, .inl (cJ, 12096, .inr (.inl x_4.2.stack)))] := ⟨hP_3, hD_3⟩
    clear hP_3 hD_3
    obtain ⟨hP_3, hD_3⟩ := hQ9
    have hP_3 := hP_3.sub (ws' := [(aWa, .inr (7, [.int (iI zW1.typeCount), .ref aWa_parameterCounts, .ref aWa_parameters, .ref aWa_results, .int (iI zW3.functionCount), .ref aWa_functionTypes, .ref aWa_starts, .ref aWa_localCounts, .ref aWa_locals, .int (bI zW5.hasMemory), .long zW5.pagesAtFirst, .long zW5.pagesMost, .int (iI zW6.globalCount), .ref aWa_globalTypes, .ref aWa_globalsChange, .ref aWa_initialTypes, .ref aWa_initialValues, .ref aEx, .ref aCo])), (aMa, .inr (6, [.ref aMa_bytes, .int (bI zAg.written), .int (iI zAg.pages), .ref aMa_globals, .int (iI x_4.1.steps), .ref aWa, .ref aCo, .int (iI x_4.1.reason), .int (iI x_4.1.next), .ref aMa_stack, .int (iI x_4.2.height), .ref aMa_functions, .ref aMa_bases, .ref aMa_returns, .int (iI zAf.depth), .int (iI zAf.variables), .int (iI zAf.values)])), (aMa_globals, .inl (cJ, 20, .inr (.inl zAg.globals))), (aMa_stack, .inl (cJ, 12096, .inr (.inl x_4.2.stack)))]) [0, 2, 1, 3] rfl
    have hD_3 := hD_3.sub (ws' := [(aWa, .inr (7, [.int (iI zW1.typeCount), .ref aWa_parameterCounts, .ref aWa_parameters, .ref aWa_results, .int (iI zW3.functionCount), .ref aWa_functionTypes, .ref aWa_starts, .ref aWa_localCounts, .ref aWa_locals, .int (bI zW5.hasMemory), .long zW5.pagesAtFirst, .long zW5.pagesMost, .int (iI zW6.globalCount), .ref aWa_globalTypes, .ref aWa_globalsChange, .ref aWa_initialTypes, .ref aWa_initialValues, .ref aEx, .ref aCo])), (aMa, .inr (6, [.ref aMa_bytes, .int (bI zAg.written), .int (iI zAg.pages), .ref aMa_globals, .int (iI x_4.1.steps), .ref aWa, .ref aCo, .int (iI x_4.1.reason), .int (iI x_4.1.next), .ref aMa_stack, .int (iI x_4.2.height), .ref aMa_functions, .ref aMa_bases, .ref aMa_returns, .int (iI zAf.depth), .int (iI zAf.variables), .int (iI zAf.values)])), (aMa_globals, .inl (cJ, 20, .inr (.inl zAg.globals))), (aMa_stack, .inl (cJ, 12096, .inr (.inl x_4.2.stack)))]) [0, 2, 1, 3] (by decide +kernel) rfl
    exact ex_W (fun _ h => ex_mq h) (W.vret hx hb hr (fun t ht hW => ⟨⟨_, ozr hf ⟨⟨hzAg, hx_4.1, hx_4.2⟩, rfl, rfl⟩, by rw [ht]; exact hP_3, hD_3⟩, hS_3.F ht⟩) hS_3.2.2 d_Ma_grow_31)
set_option maxHeartbeats 8000000 in
set_option maxRecDepth 100000 in
theorem k_Ma_isInside (l : Launch) (htr : l.stackTraces = false) (G : va_G) (cB cI cJ cZ cG : ClassId) (aMa : Nat) (aMa_bytes : Nat) (aMa_globals : Nat) (aWa : Nat) (aCo : Nat) (aMa_stack : Nat) (aMa_functions : Nat) (aMa_bases : Nat) (aMa_returns : Nat) (zAg : KAg) (zMa : KMa) (zAs : KAs) (zAf : KAf) (hzAg : KAg.Ok zAg) (hzMa : KMa.Ok zMa) (hzAs : KAs.Ok zAs) (hzAf : KAf.Ok zAf) (v_address : Int64) (v_width : Int) (hv_width : R32 v_width) (R9 : Out Empty (KMa × Bool)) (hf : f_Ma_isInside zAg zMa v_address v_width = R9) (hnb : R9 ≠ .bad) (sz : Nat) : MetX l y_Ma_isInside (wx y_Ma_isInside b_Ma_isInside 4 (some .boolean)) { frames := 0, cells := 0, slots := 0, locals := 0 } (XP G classes (xtys cB cI cJ cZ cG) xE [.ref aMa, .long v_address, .int (iI v_width)] [(aMa, .inr (6, [.ref aMa_bytes, .int (bI zAg.written), .int (iI zAg.pages), .ref aMa_globals, .int (iI zMa.steps), .ref aWa, .ref aCo, .int (iI zMa.reason), .int (iI zMa.next), .ref aMa_stack, .int (iI zAs.height), .ref aMa_functions, .ref aMa_bases, .ref aMa_returns, .int (iI zAf.depth), .int (iI zAf.variables), .int (iI zAf.values)]))] sz) (XQ G classes (va_A [(aMa, .inr (6, [.ref aMa_bytes, .int (bI zAg.written), .int (iI zAg.pages), .ref aMa_globals, .int (iI zMa.steps), .ref aWa, .ref aCo, .int (iI zMa.reason), .int (iI zMa.next), .ref aMa_stack, .int (iI zAs.height), .ref aMa_functions, .ref aMa_bases, .ref aMa_returns, .int (iI zAf.depth), .int (iI zAf.variables), .int (iI zAf.values)]))] sz) (fun o w1 => ozp R9 (fun x9 => (KMa.Ok x9.1) ∧ o = .returned (some (.int (bI x9.2))) ∧ w1 = [(aMa, .inr (6, [.ref aMa_bytes, .int (bI zAg.written), .int (iI zAg.pages), .ref aMa_globals, .int (iI x9.1.steps), .ref aWa, .ref aCo, .int (iI x9.1.reason), .int (iI x9.1.next), .ref aMa_stack, .int (iI zAs.height), .ref aMa_functions, .ref aMa_bases, .ref aMa_returns, .int (iI zAf.depth), .int (iI zAf.variables), .int (iI zAf.values)]))]) (fun _ => False))) 0 0 (va_A [(aMa, .inr (6, [.ref aMa_bytes, .int (bI zAg.written), .int (iI zAg.pages), .ref aMa_globals, .int (iI zMa.steps), .ref aWa, .ref aCo, .int (iI zMa.reason), .int (iI zMa.next), .ref aMa_stack, .int (iI zAs.height), .ref aMa_functions, .ref aMa_bases, .ref aMa_returns, .int (iI zAf.depth), .int (iI zAf.variables), .int (iI zAf.values)]))] sz) := by
  refine ex_ofW (cc := b_Ma_isInside) (maxL := 4) (ret := (some .boolean)) (by decide) rfl ?_
  intro p e s m args below meth c s₁ B hml hno hv
  obtain ⟨rfl, hsz, hP, hK, hD0, hE⟩ := hv
  have hx := B.exec
  have hb := B.bytes
  have hr := B.returns
  have hts : ∀ w ∈ lw_good, w.before _ s = true := fun w h => atoms_spec (ws := wx y_Ma_isInside b_Ma_isInside 4 (some .boolean)) B.pre w (List.mem_cons_of_mem _ h)
  have hown : s.vm.findClass R_Ma = some m.cls := findClass_of_methodNamed B.named
  have hlocks := B.notSynchronized
  subst hsz
  have hNS := xx_nostat hP
  have hD := hD0.self (sz := s.heap.size)
  generalize hAe : va_A [(aMa, .inr (6, [.ref aMa_bytes, .int (bI zAg.written), .int (iI zAg.pages), .ref aMa_globals, .int (iI zMa.steps), .ref aWa, .ref aCo, .int (iI zMa.reason), .int (iI zMa.next), .ref aMa_stack, .int (iI zAs.height), .ref aMa_functions, .ref aMa_bases, .ref aMa_returns, .int (iI zAf.depth), .int (iI zAf.variables), .int (iI zAf.values)]))] s.heap.size = A at hD hE hNS ⊢
  have hA : ∀ q : Nat, s.heap.size ≤ q → A q := fun q h => by rw [← hAe]; exact Or.inr h
  have hS : va_S A s.heap s.heap [] := va_S.rf
  have hl := lv_entry ([.ref aMa, .long v_address, .int (iI v_width)]) (n := 4) (Nat.le_of_ble_eq_true rfl)
  rw [lg_entry_eq]
  generalize (lg_sl ([.ref aMa, .long v_address, .int (iI v_width)]) ++ List.replicate (4 - (lg_sl ([.ref aMa, .long v_address, .int (iI v_width)])).length) Slot.unset).toArray = ls at hl ⊢
  have hl : lv_has ls 4 [(0, .ref aMa), (1, .long v_address), (3, .int (iI v_width))] := hl
  unfold f_Ma_isInside at hf
  refine lv_lload_n hx hb d_Ma_isInside_0 rfl (lv_at hl 1 rfl) ?_
  refine lv_iload_n hx hb d_Ma_isInside_1 rfl (lv_at hl 2 rfl) ?_
  refine lv_i2l hx hb d_Ma_isInside_2 rfl ?_
  refine lv_ladd hx hb d_Ma_isInside_3 ?_
  refine lv_aload_n hx hb d_Ma_isInside_4 rfl (lv_at hl 0 rfl) ?_
  refine va_get (D := G) (ci := 6) (v := .int (iI zAg.pages)) (C := R_Ma) (T := F_Ma) (N := 17) hx hb hts i_Ma hown hK hP 0 rfl rfl 2 (by decide) (hts _ m_160) (fun _ h9 => h9) rfl d_Ma_isInside_5 ?_
  refine lv_i2l hx hb d_Ma_isInside_8 rfl ?_
  refine lv_ldc2 (v := 65536) hx hb hown (hts _ m_1019) d_Ma_isInside_9 ?_
  refine lv_lmul hx hb d_Ma_isInside_12 ?_
  refine W.lcmp hx hb d_Ma_isInside_13 ?_
  refine lv_if_le (tgt := 25) hx hb d_Ma_isInside_14 (by decide) (fun c_1 => ?_) (fun c_1 => ?_)
  · have c_1 := (lc_le).mp c_1
    replace hf := ifp c_1 hf
    refine lv_iconst (v := iI 1) hx hb d_Ma_isInside_25 (by decide) ?_
    refine W.eq (g2 := F0 m 26 ls [.int (bI true)]) (by rfl) ?_
    exact ex_W (fun _ h => ex_mq h) (W.zret (v := bI true) hx hb hr (bI_nar _) (fun t ht hW => ⟨⟨_, ozr hf ⟨hzMa, rfl, rfl⟩, by rw [ht]; exact hP, hD⟩, hS.F ht⟩) hS.2.2 d_Ma_isInside_26)
  · have c_1 := (fun q9 => c_1 ((lc_le).mpr q9))
    replace hf := ifn c_1 hf
    refine lv_aload_n hx hb d_Ma_isInside_17 rfl (lv_at hl 0 rfl) ?_
    refine lv_bipush (v := iI 6) hx hb d_Ma_isInside_18 (by decide) ?_
    refine va_put (D := G) (ci := 6) (v := .int (iI 6)) (ty := .int) (C := R_Ma) (T := F_Ma) (N := 17) hx hb hts i_Ma t_Ma t_Ma_ok n_Ma hown hK hP hD hS 0 rfl rfl 7 (by decide) (hts _ m_168) (fun _ h9 => h9) rfl (by decide +kernel) rfl rfl (Nat.le_of_ble_eq_true rfl) d_Ma_isInside_20 (fun H_1 locs_1 hP_1 hD_1 hS_1 => ?_)
    clear hS hD hP
    have hQ9 : (fun w9 => va_P G classes w9 H_1 ∧ va_D A w9) [(aMa, .inr (6, [.ref aMa_bytes, .int (bI zAg.written), .int (iI zAg.pages), .ref aMa_globals, .int (iI zMa.steps), .ref aWa, .ref aCo, .int (iI 6), .int (iI zMa.next), .ref aMa_stack, .int (iI zAs.height), .ref aMa_functions, .ref aMa_bases, .ref aMa_returns, .int (iI zAf.depth), .int (iI zAf.variables), .int (iI zAf.values)]))] := ⟨hP_1, hD_1⟩
    clear hP_1 hD_1
    obtain ⟨hP_1, hD_1⟩ := hQ9
    refine lv_iconst (v := iI 0) hx hb d_Ma_isInside_23 (by decide) ?_
    refine W.eq (g2 := F0 m 24 ls [.int (bI false)]) (by rfl) ?_
    exact ex_W (fun _ h => ex_mq h) (W.zret (v := bI false) hx hb hr (bI_nar _) (fun t ht hW => ⟨⟨_, ozr hf ⟨(KMa.Ok.mk hzMa.steps (show R32 (6) by decide) hzMa.next : KMa.Ok (KMa.mk zMa.steps 6 zMa.next)), rfl, rfl⟩, by rw [ht]; exact hP_1, hD_1⟩, hS_1.F ht⟩) hS_1.2.2 d_Ma_isInside_24)
set_option maxRecDepth 100000 in
abbrev pq_Ma_load (cB cJ : ClassId) (aMa : Nat) (aMa_bytes : Nat) (aMa_globals : Nat) (aWa : Nat) (aCo : Nat) (aMa_stack : Nat) (aMa_functions : Nat) (aMa_bases : Nat) (aMa_returns : Nat) (zMb : KMb) (zAg : KAg) (zAf : KAf) (R9 : Out Empty (KMa × KAs)) := (fun (o : Outcome) (w1 : va_W) => ozp R9 (fun x9 => (KMa.Ok x9.1 ∧ KAs.Ok x9.2) ∧ o = .returned none ∧ w1 = [(aMa, .inr (6, [.ref aMa_bytes, .int (bI zAg.written), .int (iI zAg.pages), .ref aMa_globals, .int (iI x9.1.steps), .ref aWa, .ref aCo, .int (iI x9.1.reason), .int (iI x9.1.next), .ref aMa_stack, .int (iI x9.2.height), .ref aMa_functions, .ref aMa_bases, .ref aMa_returns, .int (iI zAf.depth), .int (iI zAf.variables), .int (iI zAf.values)])), (aMa_bytes, .inl (cB, 131072, .inl zMb.bytes)), (aMa_stack, .inl (cJ, 12096, .inr (.inl x9.2.stack)))]) (fun _ => False))
set_option maxHeartbeats 8000000 in
set_option maxRecDepth 100000 in
theorem k_Ma_load (l : Launch) (htr : l.stackTraces = false) (G : va_G) (cB cI cJ cZ cG : ClassId) (aMa : Nat) (aMa_bytes : Nat) (aMa_globals : Nat) (aWa : Nat) (aCo : Nat) (aMa_stack : Nat) (aMa_functions : Nat) (aMa_bases : Nat) (aMa_returns : Nat) (zMb : KMb) (zAg : KAg) (zMa : KMa) (zAs : KAs) (zAf : KAf) (hzMb : KMb.Ok zMb) (hzAg : KAg.Ok zAg) (hzMa : KMa.Ok zMa) (hzAs : KAs.Ok zAs) (hzAf : KAf.Ok zAf) (v_op : Int) (v_address : Int64) (hv_op : R32 v_op) (fu : Nat) (R9 : Out Empty (KMa × KAs)) (hf : f_Ma_load fu zMb zAg zMa zAs v_op v_address = R9) (hnb : R9 ≠ .bad) (sz : Nat) : MetX l y_Ma_load (wx y_Ma_load b_Ma_load 8 none) { frames := 1, cells := 0, slots := 0, locals := 23 } (XP G classes (xtys cB cI cJ cZ cG) xE [.ref aMa, .int (iI v_op), .long v_address] [(aMa, .inr (6, [.ref aMa_bytes, .int (bI zAg.written), .int (iI zAg.pages), .ref aMa_globals, .int (iI zMa.steps), .ref aWa, .ref aCo, .int (iI zMa.reason), .int (iI zMa.next), .ref aMa_stack, .int (iI zAs.height), .ref aMa_functions, .ref aMa_bases, .ref aMa_returns, .int (iI zAf.depth), .int (iI zAf.variables), .int (iI zAf.values)])), (aMa_bytes, .inl (cB, 131072, .inl zMb.bytes)), (aMa_stack, .inl (cJ, 12096, .inr (.inl zAs.stack)))] sz) (XQ G classes (va_A [(aMa, .inr (6, [.ref aMa_bytes, .int (bI zAg.written), .int (iI zAg.pages), .ref aMa_globals, .int (iI zMa.steps), .ref aWa, .ref aCo, .int (iI zMa.reason), .int (iI zMa.next), .ref aMa_stack, .int (iI zAs.height), .ref aMa_functions, .ref aMa_bases, .ref aMa_returns, .int (iI zAf.depth), .int (iI zAf.variables), .int (iI zAf.values)])), (aMa_bytes, .inl (cB, 131072, .inl zMb.bytes)), (aMa_stack, .inl (cJ, 12096, .inr (.inl zAs.stack)))] sz) (fun o w1 => ozp R9 (fun x9 => (KMa.Ok x9.1 ∧ KAs.Ok x9.2) ∧ o = .returned none ∧ w1 = [(aMa, .inr (6, [.ref aMa_bytes, .int (bI zAg.written), .int (iI zAg.pages), .ref aMa_globals, .int (iI x9.1.steps), .ref aWa, .ref aCo, .int (iI x9.1.reason), .int (iI x9.1.next), .ref aMa_stack, .int (iI x9.2.height), .ref aMa_functions, .ref aMa_bases, .ref aMa_returns, .int (iI zAf.depth), .int (iI zAf.variables), .int (iI zAf.values)])), (aMa_bytes, .inl (cB, 131072, .inl zMb.bytes)), (aMa_stack, .inl (cJ, 12096, .inr (.inl x9.2.stack)))]) (fun _ => False))) 0 0 (va_A [(aMa, .inr (6, [.ref aMa_bytes, .int (bI zAg.written), .int (iI zAg.pages), .ref aMa_globals, .int (iI zMa.steps), .ref aWa, .ref aCo, .int (iI zMa.reason), .int (iI zMa.next), .ref aMa_stack, .int (iI zAs.height), .ref aMa_functions, .ref aMa_bases, .ref aMa_returns, .int (iI zAf.depth), .int (iI zAf.variables), .int (iI zAf.values)])), (aMa_bytes, .inl (cB, 131072, .inl zMb.bytes)), (aMa_stack, .inl (cJ, 12096, .inr (.inl zAs.stack)))] sz) := by
  refine ex_ofW (cc := b_Ma_load) (maxL := 8) (ret := none) (by decide) rfl ?_
  intro p e s m args below meth c s₁ B hml hno hv
  obtain ⟨rfl, hsz, hP, hK, hD0, hE⟩ := hv
  have hx := B.exec
  have hb := B.bytes
  have hr := B.returns
  have hts : ∀ w ∈ lw_good, w.before _ s = true := fun w h => atoms_spec (ws := wx y_Ma_load b_Ma_load 8 none) B.pre w (List.mem_cons_of_mem _ h)
  have hown : s.vm.findClass R_Ma = some m.cls := findClass_of_methodNamed B.named
  have hlocks := B.notSynchronized
  subst hsz
  have hNS := xx_nostat hP
  have hD := hD0.self (sz := s.heap.size)
  generalize hAe : va_A [(aMa, .inr (6, [.ref aMa_bytes, .int (bI zAg.written), .int (iI zAg.pages), .ref aMa_globals, .int (iI zMa.steps), .ref aWa, .ref aCo, .int (iI zMa.reason), .int (iI zMa.next), .ref aMa_stack, .int (iI zAs.height), .ref aMa_functions, .ref aMa_bases, .ref aMa_returns, .int (iI zAf.depth), .int (iI zAf.variables), .int (iI zAf.values)])), (aMa_bytes, .inl (cB, 131072, .inl zMb.bytes)), (aMa_stack, .inl (cJ, 12096, .inr (.inl zAs.stack)))] s.heap.size = A at hD hE hNS ⊢
  have hA : ∀ q : Nat, s.heap.size ≤ q → A q := fun q h => by rw [← hAe]; exact Or.inr h
  have hS : va_S A s.heap s.heap [] := va_S.rf
  have hl := lv_entry ([.ref aMa, .int (iI v_op), .long v_address]) (n := 8) (Nat.le_of_ble_eq_true rfl)
  rw [lg_entry_eq]
  generalize (lg_sl ([.ref aMa, .int (iI v_op), .long v_address]) ++ List.replicate (8 - (lg_sl ([.ref aMa, .int (iI v_op), .long v_address])).length) Slot.unset).toArray = ls at hl ⊢
  have hl : lv_has ls 8 [(0, .ref aMa), (1, .int (iI v_op)), (2, .long v_address)] := hl
  unfold f_Ma_load at hf
  refine lv_iload_n hx hb d_Ma_load_0 rfl (lv_at hl 1 rfl) ?_
  replace hf := obE hnb hf
  obtain ⟨x_1, e_2, hf⟩ := hf
  refine xx_callS (wc := []) (wr := [(aMa, .inr (6, [.ref aMa_bytes, .int (bI zAg.written), .int (iI zAg.pages), .ref aMa_globals, .int (iI zMa.steps), .ref aWa, .ref aCo, .int (iI zMa.reason), .int (iI zMa.next), .ref aMa_stack, .int (iI zAs.height), .ref aMa_functions, .ref aMa_bases, .ref aMa_returns, .int (iI zAf.depth), .int (iI zAf.variables), .int (iI zAf.values)])), (aMa_bytes, .inl (cB, 131072, .inl zMb.bytes)), (aMa_stack, .inl (cJ, 12096, .inr (.inl zAs.stack)))]) (As := [.int (iI v_op)]) (rest := []) ⟨hx, hb, hml, hown, hts⟩ xE_st hK hE hA (k_Op_width l htr G cB cI cJ cZ cG v_op hv_op (.ret x_1) e_2 ret_nb _) (xw_S 1 hts m_1014 m_867 m_20 m_868 (by decide +kernel) ⟨(Nat.le_of_ble_eq_true rfl), (Nat.le_of_ble_eq_true rfl)⟩) hP hD hS [] [0, 1, 2] rfl rfl (by decide +kernel) (by decide +kernel) (by decide +kernel) rfl hl.1 rfl (Nat.le_of_ble_eq_true rfl) d_Ma_load_1 ⟨(Nat.le_of_ble_eq_true rfl), (Nat.le_of_ble_eq_true rfl)⟩ (fun v9 w9 H_1 locs_1 hp hP_1 hD_1 hS_1 => ?_) (fun x9 w9 H9 l9 hp _ _ _ => absurd hp (fun q9 => by obtain ⟨-, ho, -⟩ := q9; cases ho))
  clear hS hD hP
  obtain ⟨hx_1, ho, rfl⟩ := hp
  cases ho
  have hQ9 : (fun w9 => va_P G classes w9 H_1 ∧ va_D A w9) [(aMa, .inr (6, [.ref aMa_bytes, .int (bI zAg.written), .int (iI zAg.pages), .ref aMa_globals, .int (iI zMa.steps), .ref aWa, .ref aCo, .int (iI zMa.reason), .int (iI zMa.next), .ref aMa_stack, .int (iI zAs.height), .ref aMa_functions, .ref aMa_bases, .ref aMa_returns, .int (iI zAf.depth), .int (iI zAf.variables), .int (iI zAf.values)])), (aMa_bytes, .inl (cB, 131072, .inl zMb.bytes)), (aMa_stack, .inl (cJ, 12096, .inr (.inl zAs.stack)))] := ⟨hP_1, hD_1⟩
  clear hP_1 hD_1
  obtain ⟨hP_1, hD_1⟩ := hQ9
  refine lv_istore (lv' := [(4, .int (iI x_1)), (0, .ref aMa), (1, .int (iI v_op)), (2, .long v_address)]) hx hb d_Ma_load_4 hl (by decide) rfl (fun ls hl => ?_)
  refine lv_aload_n hx hb d_Ma_load_6 rfl (lv_at hl 1 rfl) ?_
  refine lv_lload_n hx hb d_Ma_load_7 rfl (lv_at hl 3 rfl) ?_
  refine lv_iload hx hb d_Ma_load_8 (lv_at hl 0 rfl) ?_
  replace hf := obE hnb hf
  obtain ⟨x_3, e_4, hf⟩ := hf
  refine xx_callV (wc := [(aMa, .inr (6, [.ref aMa_bytes, .int (bI zAg.written), .int (iI zAg.pages), .ref aMa_globals, .int (iI zMa.steps), .ref aWa, .ref aCo, .int (iI zMa.reason), .int (iI zMa.next), .ref aMa_stack, .int (iI zAs.height), .ref aMa_functions, .ref aMa_bases, .ref aMa_returns, .int (iI zAf.depth), .int (iI zAf.variables), .int (iI zAf.values)]))]) (wr := [(aMa_bytes, .inl (cB, 131072, .inl zMb.bytes)), (aMa_stack, .inl (cJ, 12096, .inr (.inl zAs.stack)))]) (As := [.long v_address, .int (iI x_1)]) (rest := []) ⟨hx, hb, hml, hown, hts⟩ xE_st hK hE hA (k_Ma_isInside l htr G cB cI cJ cZ cG aMa aMa_bytes aMa_globals aWa aCo aMa_stack aMa_functions aMa_bases aMa_returns zAg zMa zAs zAf hzAg hzMa hzAs hzAf v_address x_1 hx_1 (.ret x_3) e_4 ret_nb _) (xw_V 2 hts m_1015 m_1017 ms_Ma_isInside m_7 m_1018 (by decide +kernel) ⟨(Nat.le_of_ble_eq_true rfl), (Nat.le_of_ble_eq_true rfl)⟩) hP_1 hD_1 hS_1 [0] [1, 2] rfl rfl (by decide +kernel) (by decide +kernel) (by decide +kernel) 0 6 rfl rfl rfl rfl hl.1 rfl (Nat.le_of_ble_eq_true rfl) d_Ma_load_10 ⟨(Nat.le_of_ble_eq_true rfl), (Nat.le_of_ble_eq_true rfl)⟩ (fun v9 w9 H_2 locs_2 hp hP_2 hD_2 hS_2 => ?_) (fun x9 w9 H9 l9 hp _ _ _ => absurd hp (fun q9 => by obtain ⟨-, ho, -⟩ := q9; cases ho))
  clear hS_1 hD_1 hP_1
  obtain ⟨hx_3, ho, rfl⟩ := hp
  cases ho
  have hQ9 : (fun w9 => va_P G classes w9 H_2 ∧ va_D A w9) [(aMa_bytes, .inl (cB, 131072, .inl zMb.bytes)), (aMa_stack, .inl (cJ, 12096, .inr (.inl zAs.stack))), (aMa, .inr (6, [.ref aMa_bytes, .int (bI zAg.written), .int (iI zAg.pages), .ref aMa_globals, .int (iI x_3.1.steps), .ref aWa, .ref aCo, .int (iI x_3.1.reason), .int (iI x_3.1.next), .ref aMa_stack, .int (iI zAs.height), .ref aMa_functions, .ref aMa_bases, .ref aMa_returns, .int (iI zAf.depth), .int (iI zAf.variables), .int (iI zAf.values)]))] := ⟨hP_2, hD_2⟩
  clear hP_2 hD_2
  obtain ⟨hP_2, hD_2⟩ := hQ9
  refine lv_if_ne (tgt := 17) hx hb d_Ma_load_13 (by decide) (fun c_5 => ?_) (fun c_5 => ?_)
  · have c_5 := (zb_t c_5)
    replace hf := ifp c_5 hf
    refine lv_lconst (v := 0) hx hb d_Ma_load_17 (by decide) ?_
    refine lv_lstore (lv' := [(5, .long 0), (4, .int (iI x_1)), (0, .ref aMa), (1, .int (iI v_op)), (2, .long v_address)]) hx hb d_Ma_load_18 hl (by decide) rfl (fun ls hl => ?_)
    refine lv_iload hx hb d_Ma_load_20 (lv_at hl 1 rfl) ?_
    refine lv_iconst (v := iI 1) hx hb d_Ma_load_22 (by decide) ?_
    refine lv_isub hx hb d_Ma_load_23 ?_
    refine lv_topi (fun x9 e9 => ?_)
    obtain rfl : x9 = iI (x_1 - 1) := e9.trans (iI_sub _ _)
    replace hf := grd hnb hf
    obtain ⟨g_6, hf⟩ := hf
    refine lv_istore (lv' := [(7, .int (iI (x_1 - 1))), (5, .long 0), (4, .int (iI x_1)), (0, .ref aMa), (1, .int (iI v_op)), (2, .long v_address)]) hx hb d_Ma_load_24 hl (by decide) rfl (fun ls hl => ?_)
    refine obG hf (fun K_9 hK_9 hf => ?_)
    have hJK_9 : ∀ (y_11 : Int64 × Int), R32 y_11.2 → K_9 y_11 = R9 → ∀ (H_2 : Heap) (locs_2 : List Loc), (fun w9 => va_P G classes w9 H_2 → va_D A w9 → va_S A s.heap H_2 locs_2 → ∀ (ls : Array Slot), lv_has ls 8 [(0, .ref aMa), (1, .int (iI v_op)), (2, .long v_address), (4, .int (iI x_1)), (5, .long y_11.1), (7, .int (iI y_11.2))] → W p l e (headSpec (wx y_Ma_load b_Ma_load 8 none) { frames := 1, cells := 0, slots := 0, locals := 23 }).room s m ([.ref aMa, .int (iI v_op), .long v_address] : List Value).toArray below meth c H_2 locs_2 0 0 (MX below (XQ G classes A (pq_Ma_load cB cJ aMa aMa_bytes aMa_globals aWa aCo aMa_stack aMa_functions aMa_bases aMa_returns zMb zAg zAf R9)) ([.ref aMa, .int (iI v_op), .long v_address] : List Value).toArray s 0 0 A) (F0 m 60 ls [])) [(aMa_bytes, .inl (cB, 131072, .inl zMb.bytes)), (aMa_stack, .inl (cJ, 12096, .inr (.inl zAs.stack))), (aMa, .inr (6, [.ref aMa_bytes, .int (bI zAg.written), .int (iI zAg.pages), .ref aMa_globals, .int (iI x_3.1.steps), .ref aWa, .ref aCo, .int (iI x_3.1.reason), .int (iI x_3.1.next), .ref aMa_stack, .int (iI zAs.height), .ref aMa_functions, .ref aMa_bases, .ref aMa_returns, .int (iI zAf.depth), .int (iI zAf.variables), .int (iI zAf.values)]))] := by
      intro y_11 hy_11 hf H_3 locs_3 hP_3 hD_3 hS_3 ls hl
      clear hS_2 hD_2 hP_2
      replace hf := (congrFun hK_9 y_11).symm.trans hf
      clear hK_9
      refine lv_iload_n hx hb d_Ma_load_60 rfl (lv_at hl 1 rfl) ?_
      refine lv_bipush (v := iI 40) hx hb d_Ma_load_61 (by decide) ?_
      refine jpE hf (fun K_13 hK_13 hf9 => ?_)
      replace hf := hf9
      clear hf9
      have hJK_13 : ∀ (y_12 : KMa × KAs), KMa.Ok y_12.1 ∧ KAs.Ok y_12.2 → K_13 y_12 = R9 → ∀ (H_3 : Heap) (locs_3 : List Loc), (fun w9 => va_P G classes w9 H_3 → va_D A w9 → va_S A s.heap H_3 locs_3 → ∀ (ls : Array Slot), lv_has ls 8 [(0, .ref aMa), (1, .int (iI v_op)), (2, .long v_address), (4, .int (iI x_1)), (5, .long y_11.1), (7, .int (iI y_11.2))] → W p l e (headSpec (wx y_Ma_load b_Ma_load 8 none) { frames := 1, cells := 0, slots := 0, locals := 23 }).room s m ([.ref aMa, .int (iI v_op), .long v_address] : List Value).toArray below meth c H_3 locs_3 0 0 (MX below (XQ G classes A (pq_Ma_load cB cJ aMa aMa_bytes aMa_globals aWa aCo aMa_stack aMa_functions aMa_bases aMa_returns zMb zAg zAf R9)) ([.ref aMa, .int (iI v_op), .long v_address] : List Value).toArray s 0 0 A) (F0 m 97 ls [])) [(aMa_bytes, .inl (cB, 131072, .inl zMb.bytes)), (aMa_stack, .inl (cJ, 12096, .inr (.inl y_12.2.stack))), (aMa, .inr (6, [.ref aMa_bytes, .int (bI zAg.written), .int (iI zAg.pages), .ref aMa_globals, .int (iI y_12.1.steps), .ref aWa, .ref aCo, .int (iI y_12.1.reason), .int (iI y_12.1.next), .ref aMa_stack, .int (iI y_12.2.height), .ref aMa_functions, .ref aMa_bases, .ref aMa_returns, .int (iI zAf.depth), .int (iI zAf.variables), .int (iI zAf.values)]))] := by
        intro y_12 hy_12 hf H_8 locs_8 hP_8 hD_8 hS_8 ls hl
        clear hS_3 hD_3 hP_3
        replace hf := (congrFun hK_13 y_12).symm.trans hf
        clear hK_13
        have hP_8 := hP_8.sub (ws' := [(aMa, .inr (6, [.ref aMa_bytes, .int (bI zAg.written), .int (iI zAg.pages), .ref aMa_globals, .int (iI y_12.1.steps), .ref aWa, .ref aCo, .int (iI y_12.1.reason), .int (iI y_12.1.next), .ref aMa_stack, .int (iI y_12.2.height), .ref aMa_functions, .ref aMa_bases, .ref aMa_returns, .int (iI zAf.depth), .int (iI zAf.variables), .int (iI zAf.values)])), (aMa_bytes, .inl (cB, 131072, .inl zMb.bytes)), (aMa_stack, .inl (cJ, 12096, .inr (.inl y_12.2.stack)))]) [2, 0, 1] rfl
        have hD_8 := hD_8.sub (ws' := [(aMa, .inr (6, [.ref aMa_bytes, .int (bI zAg.written), .int (iI zAg.pages), .ref aMa_globals, .int (iI y_12.1.steps), .ref aWa, .ref aCo, .int (iI y_12.1.reason), .int (iI y_12.1.next), .ref aMa_stack, .int (iI y_12.2.height), .ref aMa_functions, .ref aMa_bases, .ref aMa_returns, .int (iI zAf.depth), .int (iI zAf.variables), .int (iI zAf.values)])), (aMa_bytes, .inl (cB, 131072, .inl zMb.bytes)), (aMa_stack, .inl (cJ, 12096, .inr (.inl y_12.2.stack)))]) [2, 0, 1] (by decide +kernel) rfl
        exact ex_W (fun _ h => ex_mq h) (W.vret hx hb hr (fun t ht hW => ⟨⟨_, ozr hf ⟨⟨hy_12.1, hy_12.2⟩, rfl, rfl⟩, by rw [ht]; exact hP_8, hD_8⟩, hS_8.F ht⟩) hS_8.2.2 d_Ma_load_97)
      clear hK_13
      refine lv_icmp_ne (tgt := 77) hx hb d_Ma_load_63 (by decide) (fun c_14 => ?_) (fun c_14 => ?_)
      · have c_14 := (fun q9 => c_14 (((zv_eq (iI_t hv_op) (iI_t (show R32 (40) by decide)))).mpr q9))
        replace hf := ifn c_14 hf
        refine lv_aload_n hx hb d_Ma_load_77 rfl (lv_at hl 0 rfl) ?_
        refine lv_iload_n hx hb d_Ma_load_78 rfl (lv_at hl 1 rfl) ?_
        refine lv_bipush (v := iI 44) hx hb d_Ma_load_79 (by decide) ?_
        refine jpE hf (fun K_16 hK_16 hf9 => ?_)
        replace hf := hf9
        clear hf9
        have hJK_16 : ∀ (y_15 : Int64), True → K_16 y_15 = R9 → ∀ (H_3 : Heap) (locs_3 : List Loc), (fun w9 => va_P G classes w9 H_3 → va_D A w9 → va_S A s.heap H_3 locs_3 → ∀ (ls : Array Slot), lv_has ls 8 [(0, .ref aMa), (1, .int (iI v_op)), (2, .long v_address), (4, .int (iI x_1)), (5, .long y_11.1), (7, .int (iI y_11.2))] → W p l e (headSpec (wx y_Ma_load b_Ma_load 8 none) { frames := 1, cells := 0, slots := 0, locals := 23 }).room s m ([.ref aMa, .int (iI v_op), .long v_address] : List Value).toArray below meth c H_3 locs_3 0 0 (MX below (XQ G classes A (pq_Ma_load cB cJ aMa aMa_bytes aMa_globals aWa aCo aMa_stack aMa_functions aMa_bases aMa_returns zMb zAg zAf R9)) ([.ref aMa, .int (iI v_op), .long v_address] : List Value).toArray s 0 0 A) (F0 m 94 ls [.long y_15, .ref aMa])) [(aMa_bytes, .inl (cB, 131072, .inl zMb.bytes)), (aMa_stack, .inl (cJ, 12096, .inr (.inl zAs.stack))), (aMa, .inr (6, [.ref aMa_bytes, .int (bI zAg.written), .int (iI zAg.pages), .ref aMa_globals, .int (iI x_3.1.steps), .ref aWa, .ref aCo, .int (iI x_3.1.reason), .int (iI x_3.1.next), .ref aMa_stack, .int (iI zAs.height), .ref aMa_functions, .ref aMa_bases, .ref aMa_returns, .int (iI zAf.depth), .int (iI zAf.variables), .int (iI zAf.values)]))] := by
          intro y_15 hy_15 hf H_10 locs_10 hP_10 hD_10 hS_10 ls hl
          clear hS_3 hD_3 hP_3
          replace hf := (congrFun hK_16 y_15).symm.trans hf
          clear hK_16
          replace hf := obE hnb hf
          obtain ⟨x_17, e_18, hf⟩ := hf
          refine xx_callV (wc := [(aMa, .inr (6, [.ref aMa_bytes, .int (bI zAg.written), .int (iI zAg.pages), .ref aMa_globals, .int (iI x_3.1.steps), .ref aWa, .ref aCo, .int (iI x_3.1.reason), .int (iI x_3.1.next), .ref aMa_stack, .int (iI zAs.height), .ref aMa_functions, .ref aMa_bases, .ref aMa_returns, .int (iI zAf.depth), .int (iI zAf.variables), .int (iI zAf.values)])), (aMa_stack, .inl (cJ, 12096, .inr (.inl zAs.stack)))]) (wr := [(aMa_bytes, .inl (cB, 131072, .inl zMb.bytes))]) (As := [.long y_15]) (rest := []) ⟨hx, hb, hml, hown, hts⟩ xE_st hK hE hA (k_Ma_push l htr G cB cI cJ cZ cG aMa aMa_bytes aMa_globals aWa aCo aMa_stack aMa_functions aMa_bases aMa_returns zAg x_3.1 zAs zAf hzAg hx_3 hzAs hzAf y_15 (.ret x_17) e_18 ret_nb _) (xw_V 1 hts m_952 m_954 ms_Ma_push m_7 m_955 (by decide +kernel) ⟨(Nat.le_of_ble_eq_true rfl), (Nat.le_of_ble_eq_true rfl)⟩) hP_10 hD_10 hS_10 [2, 1] [0] rfl rfl (by decide +kernel) (by decide +kernel) (by decide +kernel) 0 6 rfl rfl rfl rfl hl.1 rfl (Nat.le_of_ble_eq_true rfl) d_Ma_load_94 ⟨(Nat.le_of_ble_eq_true rfl), (Nat.le_of_ble_eq_true rfl)⟩ (fun v9 w9 H_11 locs_11 hp hP_11 hD_11 hS_11 => ?_) (fun x9 w9 H9 l9 hp _ _ _ => absurd hp (fun q9 => by obtain ⟨-, ho, -⟩ := q9; cases ho))
          clear hS_10 hD_10 hP_10
          obtain ⟨hx_17, ho, rfl⟩ := hp
          cases ho
          have hQ9 : (fun w9 => va_P G classes w9 H_11 ∧ va_D A w9) [(aMa_bytes, .inl (cB, 131072, .inl zMb.bytes)), (aMa, .inr (6, [.ref aMa_bytes, .int (bI zAg.written), .int (iI zAg.pages), .ref aMa_globals, .int (iI x_17.1.steps), .ref aWa, .ref aCo, .int (iI x_17.1.reason), .int (iI x_17.1.next), .ref aMa_stack, .int (iI x_17.2.height), .ref aMa_functions, .ref aMa_bases, .ref aMa_returns, .int (iI zAf.depth), .int (iI zAf.variables), .int (iI zAf.values)])), (aMa_stack, .inl (cJ, 12096, .inr (.inl x_17.2.stack)))] := ⟨hP_11, hD_11⟩
          clear hP_11 hD_11
          obtain ⟨hP_11, hD_11⟩ := hQ9
          exact hJK_13 (x_17.1, x_17.2) ⟨hx_17.1, hx_17.2⟩ hf _ _ (hP_11.sub [0, 2, 1] rfl) (hD_11.sub [0, 2, 1] (by decide +kernel) rfl) hS_11 _ (lv_sub hl [0, 1, 2, 3, 4, 5] rfl)
        clear hK_16
        refine lv_icmp_ne (tgt := 92) hx hb d_Ma_load_81 (by decide) (fun c_19 => ?_) (fun c_19 => ?_)
        · have c_19 := (fun q9 => c_19 (((zv_eq (iI_t hv_op) (iI_t (show R32 (44) by decide)))).mpr q9))
          replace hf := ifn c_19 hf
          refine lv_lload hx hb d_Ma_load_92 (lv_at hl 4 rfl) ?_
          exact hJK_16 y_11.1 trivial hf _ _ hP_3 hD_3 hS_3 _ (lv_sub hl [0, 1, 2, 3, 4, 5] rfl)
        · have c_19 := ((zv_eq (iI_t hv_op) (iI_t (show R32 (44) by decide)))).mp c_19
          replace hf := ifp c_19 hf
          refine lv_lload hx hb d_Ma_load_84 (lv_at hl 4 rfl) ?_
          refine lv_l2i hx hb d_Ma_load_86 rfl ?_
          refine lv_i2b hx hb d_Ma_load_87 rfl ?_
          refine lv_i2l hx hb d_Ma_load_88 rfl ?_
          refine lv_goto (tgt := 94) hx hb d_Ma_load_89 (by decide) ?_
          exact hJK_16 y_11.1.toInt32.toInt8.toInt32.toInt64 trivial hf _ _ hP_3 hD_3 hS_3 _ (lv_sub hl [0, 1, 2, 3, 4, 5] rfl)
      · have c_14 := ((zv_eq (iI_t hv_op) (iI_t (show R32 (40) by decide)))).mp c_14
        replace hf := ifp c_14 hf
        refine lv_aload_n hx hb d_Ma_load_66 rfl (lv_at hl 0 rfl) ?_
        refine lv_lload hx hb d_Ma_load_67 (lv_at hl 4 rfl) ?_
        refine lv_l2i hx hb d_Ma_load_69 rfl ?_
        refine lv_i2l hx hb d_Ma_load_70 rfl ?_
        replace hf := obE hnb hf
        obtain ⟨x_20, e_21, hf⟩ := hf
        refine xx_callV (wc := [(aMa, .inr (6, [.ref aMa_bytes, .int (bI zAg.written), .int (iI zAg.pages), .ref aMa_globals, .int (iI x_3.1.steps), .ref aWa, .ref aCo, .int (iI x_3.1.reason), .int (iI x_3.1.next), .ref aMa_stack, .int (iI zAs.height), .ref aMa_functions, .ref aMa_bases, .ref aMa_returns, .int (iI zAf.depth), .int (iI zAf.variables), .int (iI zAf.values)])), (aMa_stack, .inl (cJ, 12096, .inr (.inl zAs.stack)))]) (wr := [(aMa_bytes, .inl (cB, 131072, .inl zMb.bytes))]) (As := [.long y_11.1.toInt32.toInt64]) (rest := []) ⟨hx, hb, hml, hown, hts⟩ xE_st hK hE hA (k_Ma_push l htr G cB cI cJ cZ cG aMa aMa_bytes aMa_globals aWa aCo aMa_stack aMa_functions aMa_bases aMa_returns zAg x_3.1 zAs zAf hzAg hx_3 hzAs hzAf y_11.1.toInt32.toInt64 (.ret x_20) e_21 ret_nb _) (xw_V 1 hts m_952 m_954 ms_Ma_push m_7 m_955 (by decide +kernel) ⟨(Nat.le_of_ble_eq_true rfl), (Nat.le_of_ble_eq_true rfl)⟩) hP_3 hD_3 hS_3 [2, 1] [0] rfl rfl (by decide +kernel) (by decide +kernel) (by decide +kernel) 0 6 rfl rfl rfl rfl hl.1 rfl (Nat.le_of_ble_eq_true rfl) d_Ma_load_71 ⟨(Nat.le_of_ble_eq_true rfl), (Nat.le_of_ble_eq_true rfl)⟩ (fun v9 w9 H_12 locs_12 hp hP_12 hD_12 hS_12 => ?_) (fun x9 w9 H9 l9 hp _ _ _ => absurd hp (fun q9 => by obtain ⟨-, ho, -⟩ := q9; cases ho))
        clear hS_3 hD_3 hP_3
        obtain ⟨hx_20, ho, rfl⟩ := hp
        cases ho
        have hQ9 : (fun w9 => va_P G classes w9 H_12 ∧ va_D A w9) [(aMa_bytes, .inl (cB, 131072, .inl zMb.bytes)), (aMa, .inr (6, [.ref aMa_bytes, .int (bI zAg.written), .int (iI zAg.pages), .ref aMa_globals, .int (iI x_20.1.steps), .ref aWa, .ref aCo, .int (iI x_20.1.reason), .int (iI x_20.1.next), .ref aMa_stack, .int (iI x_20.2.height), .ref aMa_functions, .ref aMa_bases, .ref aMa_returns, .int (iI zAf.depth), .int (iI zAf.variables), .int (iI zAf.values)])), (aMa_stack, .inl (cJ, 12096, .inr (.inl x_20.2.stack)))] := ⟨hP_12, hD_12⟩
        clear hP_12 hD_12
        obtain ⟨hP_12, hD_12⟩ := hQ9
        refine lv_goto (tgt := 97) hx hb d_Ma_load_74 (by decide) ?_
        exact hJK_13 (x_20.1, x_20.2) ⟨hx_20.1, hx_20.2⟩ hf _ _ (hP_12.sub [0, 2, 1] rfl) (hD_12.sub [0, 2, 1] (by decide +kernel) rfl) hS_12 _ (lv_sub hl [0, 1, 2, 3, 4, 5] rfl)
    clear hK_9
    have loop_26 : ∀ (n_7 : Nat) (w_value_22 : Int64) (w_k_23 : Int), R32 w_k_23 → ∀ (R_24 : Out Empty (Int64 × Int)), L26_Ma_load fu zMb v_address n_7 w_value_22 w_k_23 = R_24 → obind R_24 K_9 = R9 → ∀ (H_2 : Heap) (locs_2 : List Loc), (fun w9 => va_P G classes w9 H_2 → va_D A w9 → va_S A s.heap H_2 locs_2 → ∀ (ls : Array Slot), lv_has ls 8 [(0, .ref aMa), (1, .int (iI v_op)), (2, .long v_address), (4, .int (iI x_1)), (5, .long w_value_22), (7, .int (iI w_k_23))] → W p l e (headSpec (wx y_Ma_load b_Ma_load 8 none) { frames := 1, cells := 0, slots := 0, locals := 23 }).room s m ([.ref aMa, .int (iI v_op), .long v_address] : List Value).toArray below meth c H_2 locs_2 0 0 (MX below (XQ G classes A (pq_Ma_load cB cJ aMa aMa_bytes aMa_globals aWa aCo aMa_stack aMa_functions aMa_bases aMa_returns zMb zAg zAf R9)) ([.ref aMa, .int (iI v_op), .long v_address] : List Value).toArray s 0 0 A) (F0 m 26 ls [])) [(aMa_bytes, .inl (cB, 131072, .inl zMb.bytes)), (aMa_stack, .inl (cJ, 12096, .inr (.inl zAs.stack))), (aMa, .inr (6, [.ref aMa_bytes, .int (bI zAg.written), .int (iI zAg.pages), .ref aMa_globals, .int (iI x_3.1.steps), .ref aWa, .ref aCo, .int (iI x_3.1.reason), .int (iI x_3.1.next), .ref aMa_stack, .int (iI zAs.height), .ref aMa_functions, .ref aMa_bases, .ref aMa_returns, .int (iI zAf.depth), .int (iI zAf.variables), .int (iI zAf.values)]))] := by
      intro n_7
      induction n_7 with
      | zero => intro w_value_22 w_k_23  hw_k_23 R_24 hf hk26; subst hf; exact absurd hk26.symm hnb
      | succ n_7 ih_26 =>
        intro w_value_22 w_k_23  hw_k_23 R_24 hf hk26 H_13 locs_13 hP_13 hD_13 hS_13 ls hl
        clear hS_2 hD_2 hP_2
        have hnb : R_24 ≠ .bad := ob_nb hnb hk26
        rw [L26_Ma_load.eq_2] at hf
        refine lv_iload hx hb d_Ma_load_26 (lv_at hl 5 rfl) ?_
        refine lv_if_lt (tgt := 60) hx hb d_Ma_load_28 (by decide) (fun c_25 => ?_) (fun c_25 => ?_)
        · have c_25 := ((zv_lt (iI_t hw_k_23) zero_v)).mp c_25
          replace hf := ifp c_25 hf
          exact hJK_9 (w_value_22, w_k_23) hw_k_23 (ob_r hf hk26) _ _ hP_13 hD_13 hS_13 _ (lv_sub hl [0, 1, 2, 3, 4, 5] rfl)
        · have c_25 := (fun q9 => c_25 (((zv_lt (iI_t hw_k_23) zero_v)).mpr q9))
          replace hf := ifn c_25 hf
          refine lv_lload hx hb d_Ma_load_31 (lv_at hl 4 rfl) ?_
          refine lv_bipush (v := iI 8) hx hb d_Ma_load_33 (by decide) ?_
          refine lv_lshl hx hb d_Ma_load_35 rfl ?_
          refine lv_aload_n hx hb d_Ma_load_36 rfl (lv_at hl 0 rfl) ?_
          refine va_get (D := G) (ci := 6) (v := .ref aMa_bytes) (C := R_Ma) (T := F_Ma) (N := 17) hx hb hts i_Ma hown hK hP_13 2 rfl rfl 0 (by decide) (hts _ m_157) (fun _ h9 => h9) rfl d_Ma_load_37 ?_
          refine lv_lload_n hx hb d_Ma_load_40 rfl (lv_at hl 2 rfl) ?_
          refine lv_l2i hx hb d_Ma_load_41 rfl ?_
          refine lv_iload hx hb d_Ma_load_42 (lv_at hl 5 rfl) ?_
          refine lv_iadd hx hb d_Ma_load_44 ?_
          refine W.eq (g2 := F0 m 45 ls [.int (iI ((v_address.toInt32 + (iI w_k_23)).toInt)), .ref aMa_bytes, .long (w_value_22 <<< ((iI 8).toInt64 &&& 63))]) (by rw [← iI_of (v_address.toInt32 + (iI w_k_23))] <;> rfl) ?_
          replace hf := grd hnb hf
          obtain ⟨g_26, hf⟩ := hf
          refine va_bald hx hb hK hP_13 0 0 rfl rfl (vp_in_iI (R32_of _) g_26) d_Ma_load_45 ?_
          refine W.eq (g2 := F0 m 46 ls [.int (zMb.bytes ((v_address.toInt32 + (iI w_k_23)).toInt).toNat), .long (w_value_22 <<< ((iI 8).toInt64 &&& 63))]) (by rw [iI_clamp (R32_of _)] <;> rfl) ?_
          refine lv_sipush (v := iI 255) hx hb d_Ma_load_46 (by decide) ?_
          refine lv_iand hx hb d_Ma_load_49 ?_
          refine lv_topi (fun x9 e9 => ?_)
          obtain rfl : x9 = iI (by8 (zMb.bytes ((v_address.toInt32 + (iI w_k_23)).toInt).toNat)) := e9.trans (by8_i _)
          refine lv_i2l hx hb d_Ma_load_50 rfl ?_
          refine lv_lor hx hb d_Ma_load_51 ?_
          refine lv_lstore (lv' := [(5, .long ((w_value_22 <<< ((iI 8).toInt64 &&& 63)) ||| ((iI (by8 (zMb.bytes ((v_address.toInt32 + (iI w_k_23)).toInt).toNat))).toInt64))), (0, .ref aMa), (1, .int (iI v_op)), (2, .long v_address), (4, .int (iI x_1)), (7, .int (iI w_k_23))]) hx hb d_Ma_load_52 hl (by decide) rfl (fun ls hl => ?_)
          replace hf := grd hnb hf
          obtain ⟨g_27, hf⟩ := hf
          refine lv_iinc (v := iI (w_k_23 + (-1))) (lv' := [(7, .int (iI (w_k_23 + (-1)))), (5, .long ((w_value_22 <<< ((iI 8).toInt64 &&& 63)) ||| ((iI (by8 (zMb.bytes ((v_address.toInt32 + (iI w_k_23)).toInt).toNat))).toInt64))), (0, .ref aMa), (1, .int (iI v_op)), (2, .long v_address), (4, .int (iI x_1))]) hx hb d_Ma_load_54 hl (k := 5) rfl (iI_add _ (-1)) (by decide) rfl (fun ls hl => ?_)
          refine lv_goto (tgt := 26) hx hb d_Ma_load_57 (by decide) ?_
          exact ih_26 ((w_value_22 <<< ((iI 8).toInt64 &&& 63)) ||| ((iI (by8 (zMb.bytes ((v_address.toInt32 + (iI w_k_23)).toInt).toNat))).toInt64)) (w_k_23 + (-1)) g_27 _ hf hk26 _ _ hP_13 hD_13 hS_13 _ (lv_sub hl [2, 3, 4, 5, 1, 0] rfl)
    exact loop_26 fu 0 (x_1 - 1) g_6 _ rfl hf _ _ hP_2 hD_2 hS_2 _ (lv_sub hl [3, 4, 5, 2, 1, 0] rfl)
  · have c_5 := (zb_f c_5)
    replace hf := ifn c_5 hf
    have hP_2 := hP_2.sub (ws' := [(aMa, .inr (6, [.ref aMa_bytes, .int (bI zAg.written), .int (iI zAg.pages), .ref aMa_globals, .int (iI x_3.1.steps), .ref aWa, .ref aCo, .int (iI x_3.1.reason), .int (iI x_3.1.next), .ref aMa_stack, .int (iI zAs.height), .ref aMa_functions, .ref aMa_bases, .ref aMa_returns, .int (iI zAf.depth), .int (iI zAf.variables), .int (iI zAf.values)])), (aMa_bytes, .inl (cB, 131072, .inl zMb.bytes)), (aMa_stack, .inl (cJ, 12096, .inr (.inl zAs.stack)))]) [2, 0, 1] rfl
    have hD_2 := hD_2.sub (ws' := [(aMa, .inr (6, [.ref aMa_bytes, .int (bI zAg.written), .int (iI zAg.pages), .ref aMa_globals, .int (iI x_3.1.steps), .ref aWa, .ref aCo, .int (iI x_3.1.reason), .int (iI x_3.1.next), .ref aMa_stack, .int (iI zAs.height), .ref aMa_functions, .ref aMa_bases, .ref aMa_returns, .int (iI zAf.depth), .int (iI zAf.variables), .int (iI zAf.values)])), (aMa_bytes, .inl (cB, 131072, .inl zMb.bytes)), (aMa_stack, .inl (cJ, 12096, .inr (.inl zAs.stack)))]) [2, 0, 1] (by decide +kernel) rfl
    exact ex_W (fun _ h => ex_mq h) (W.vret hx hb hr (fun t ht hW => ⟨⟨_, ozr hf ⟨⟨hx_3, hzAs⟩, rfl, rfl⟩, by rw [ht]; exact hP_2, hD_2⟩, hS_2.F ht⟩) hS_2.2.2 d_Ma_load_16)
set_option maxRecDepth 100000 in
abbrev pq_Ma_store (cB cJ : ClassId) (aMa : Nat) (aMa_bytes : Nat) (aMa_globals : Nat) (aWa : Nat) (aCo : Nat) (aMa_stack : Nat) (aMa_functions : Nat) (aMa_bases : Nat) (aMa_returns : Nat) (zAs : KAs) (zAf : KAf) (R9 : Out Empty (KMb × KAg × KMa)) := (fun (o : Outcome) (w1 : va_W) => ozp R9 (fun x9 => (KMb.Ok x9.1 ∧ KAg.Ok x9.2.1 ∧ KMa.Ok x9.2.2) ∧ o = .returned none ∧ w1 = [(aMa, .inr (6, [.ref aMa_bytes, .int (bI x9.2.1.written), .int (iI x9.2.1.pages), .ref aMa_globals, .int (iI x9.2.2.steps), .ref aWa, .ref aCo, .int (iI x9.2.2.reason), .int (iI x9.2.2.next), .ref aMa_stack, .int (iI zAs.height), .ref aMa_functions, .ref aMa_bases, .ref aMa_returns, .int (iI zAf.depth), .int (iI zAf.variables), .int (iI zAf.values)])), (aMa_bytes, .inl (cB, 131072, .inl x9.1.bytes)), (aMa_globals, .inl (cJ, 20, .inr (.inl x9.2.1.globals)))]) (fun _ => False))
set_option maxHeartbeats 8000000 in
set_option maxRecDepth 100000 in
theorem k_Ma_store (l : Launch) (htr : l.stackTraces = false) (G : va_G) (cB cI cJ cZ cG : ClassId) (aMa : Nat) (aMa_bytes : Nat) (aMa_globals : Nat) (aWa : Nat) (aCo : Nat) (aMa_stack : Nat) (aMa_functions : Nat) (aMa_bases : Nat) (aMa_returns : Nat) (zMb : KMb) (zAg : KAg) (zMa : KMa) (zAs : KAs) (zAf : KAf) (hzMb : KMb.Ok zMb) (hzAg : KAg.Ok zAg) (hzMa : KMa.Ok zMa) (hzAs : KAs.Ok zAs) (hzAf : KAf.Ok zAf) (v_op : Int) (v_address : Int64) (v_value : Int64) (hv_op : R32 v_op) (fu : Nat) (R9 : Out Empty (KMb × KAg × KMa)) (hf : f_Ma_store fu zMb zAg zMa v_op v_address v_value = R9) (hnb : R9 ≠ .bad) (sz : Nat) : MetX l y_Ma_store (wx y_Ma_store b_Ma_store 8 none) { frames := 1, cells := 0, slots := 0, locals := 23 } (XP G classes (xtys cB cI cJ cZ cG) xE [.ref aMa, .int (iI v_op), .long v_address, .long v_value] [(aMa, .inr (6, [.ref aMa_bytes, .int (bI zAg.written), .int (iI zAg.pages), .ref aMa_globals, .int (iI zMa.steps), .ref aWa, .ref aCo, .int (iI zMa.reason), .int (iI zMa.next), .ref aMa_stack, .int (iI zAs.height), .ref aMa_functions, .ref aMa_bases, .ref aMa_returns, .int (iI zAf.depth), .int (iI zAf.variables), .int (iI zAf.values)])), (aMa_bytes, .inl (cB, 131072, .inl zMb.bytes)), (aMa_globals, .inl (cJ, 20, .inr (.inl zAg.globals)))] sz) (XQ G classes (va_A [(aMa, .inr (6, [.ref aMa_bytes, .int (bI zAg.written), .int (iI zAg.pages), .ref aMa_globals, .int (iI zMa.steps), .ref aWa, .ref aCo, .int (iI zMa.reason), .int (iI zMa.next), .ref aMa_stack, .int (iI zAs.height), .ref aMa_functions, .ref aMa_bases, .ref aMa_returns, .int (iI zAf.depth), .int (iI zAf.variables), .int (iI zAf.values)])), (aMa_bytes, .inl (cB, 131072, .inl zMb.bytes)), (aMa_globals, .inl (cJ, 20, .inr (.inl zAg.globals)))] sz) (fun o w1 => ozp R9 (fun x9 => (KMb.Ok x9.1 ∧ KAg.Ok x9.2.1 ∧ KMa.Ok x9.2.2) ∧ o = .returned none ∧ w1 = [(aMa, .inr (6, [.ref aMa_bytes, .int (bI x9.2.1.written), .int (iI x9.2.1.pages), .ref aMa_globals, .int (iI x9.2.2.steps), .ref aWa, .ref aCo, .int (iI x9.2.2.reason), .int (iI x9.2.2.next), .ref aMa_stack, .int (iI zAs.height), .ref aMa_functions, .ref aMa_bases, .ref aMa_returns, .int (iI zAf.depth), .int (iI zAf.variables), .int (iI zAf.values)])), (aMa_bytes, .inl (cB, 131072, .inl x9.1.bytes)), (aMa_globals, .inl (cJ, 20, .inr (.inl x9.2.1.globals)))]) (fun _ => False))) 0 0 (va_A [(aMa, .inr (6, [.ref aMa_bytes, .int (bI zAg.written), .int (iI zAg.pages), .ref aMa_globals, .int (iI zMa.steps), .ref aWa, .ref aCo, .int (iI zMa.reason), .int (iI zMa.next), .ref aMa_stack, .int (iI zAs.height), .ref aMa_functions, .ref aMa_bases, .ref aMa_returns, .int (iI zAf.depth), .int (iI zAf.variables), .int (iI zAf.values)])), (aMa_bytes, .inl (cB, 131072, .inl zMb.bytes)), (aMa_globals, .inl (cJ, 20, .inr (.inl zAg.globals)))] sz) := by
  refine ex_ofW (cc := b_Ma_store) (maxL := 8) (ret := none) (by decide) rfl ?_
  intro p e s m args below meth c s₁ B hml hno hv
  obtain ⟨rfl, hsz, hP, hK, hD0, hE⟩ := hv
  have hx := B.exec
  have hb := B.bytes
  have hr := B.returns
  have hts : ∀ w ∈ lw_good, w.before _ s = true := fun w h => atoms_spec (ws := wx y_Ma_store b_Ma_store 8 none) B.pre w (List.mem_cons_of_mem _ h)
  have hown : s.vm.findClass R_Ma = some m.cls := findClass_of_methodNamed B.named
  have hlocks := B.notSynchronized
  subst hsz
  have hNS := xx_nostat hP
  have hD := hD0.self (sz := s.heap.size)
  generalize hAe : va_A [(aMa, .inr (6, [.ref aMa_bytes, .int (bI zAg.written), .int (iI zAg.pages), .ref aMa_globals, .int (iI zMa.steps), .ref aWa, .ref aCo, .int (iI zMa.reason), .int (iI zMa.next), .ref aMa_stack, .int (iI zAs.height), .ref aMa_functions, .ref aMa_bases, .ref aMa_returns, .int (iI zAf.depth), .int (iI zAf.variables), .int (iI zAf.values)])), (aMa_bytes, .inl (cB, 131072, .inl zMb.bytes)), (aMa_globals, .inl (cJ, 20, .inr (.inl zAg.globals)))] s.heap.size = A at hD hE hNS ⊢
  have hA : ∀ q : Nat, s.heap.size ≤ q → A q := fun q h => by rw [← hAe]; exact Or.inr h
  have hS : va_S A s.heap s.heap [] := va_S.rf
  have hl := lv_entry ([.ref aMa, .int (iI v_op), .long v_address, .long v_value]) (n := 8) (Nat.le_of_ble_eq_true rfl)
  rw [lg_entry_eq]
  generalize (lg_sl ([.ref aMa, .int (iI v_op), .long v_address, .long v_value]) ++ List.replicate (8 - (lg_sl ([.ref aMa, .int (iI v_op), .long v_address, .long v_value])).length) Slot.unset).toArray = ls at hl ⊢
  have hl : lv_has ls 8 [(0, .ref aMa), (1, .int (iI v_op)), (2, .long v_address), (4, .long v_value)] := hl
  unfold f_Ma_store at hf
  refine lv_iload_n hx hb d_Ma_store_0 rfl (lv_at hl 1 rfl) ?_
  replace hf := obE hnb hf
  obtain ⟨x_1, e_2, hf⟩ := hf
  refine xx_callS (wc := []) (wr := [(aMa, .inr (6, [.ref aMa_bytes, .int (bI zAg.written), .int (iI zAg.pages), .ref aMa_globals, .int (iI zMa.steps), .ref aWa, .ref aCo, .int (iI zMa.reason), .int (iI zMa.next), .ref aMa_stack, .int (iI zAs.height), .ref aMa_functions, .ref aMa_bases, .ref aMa_returns, .int (iI zAf.depth), .int (iI zAf.variables), .int (iI zAf.values)])), (aMa_bytes, .inl (cB, 131072, .inl zMb.bytes)), (aMa_globals, .inl (cJ, 20, .inr (.inl zAg.globals)))]) (As := [.int (iI v_op)]) (rest := []) ⟨hx, hb, hml, hown, hts⟩ xE_st hK hE hA (k_Op_width l htr G cB cI cJ cZ cG v_op hv_op (.ret x_1) e_2 ret_nb _) (xw_S 1 hts m_1014 m_867 m_20 m_868 (by decide +kernel) ⟨(Nat.le_of_ble_eq_true rfl), (Nat.le_of_ble_eq_true rfl)⟩) hP hD hS [] [0, 1, 2] rfl rfl (by decide +kernel) (by decide +kernel) (by decide +kernel) rfl hl.1 rfl (Nat.le_of_ble_eq_true rfl) d_Ma_store_1 ⟨(Nat.le_of_ble_eq_true rfl), (Nat.le_of_ble_eq_true rfl)⟩ (fun v9 w9 H_1 locs_1 hp hP_1 hD_1 hS_1 => ?_) (fun x9 w9 H9 l9 hp _ _ _ => absurd hp (fun q9 => by obtain ⟨-, ho, -⟩ := q9; cases ho))
  clear hS hD hP
  obtain ⟨hx_1, ho, rfl⟩ := hp
  cases ho
  have hQ9 : (fun w9 => va_P G classes w9 H_1 ∧ va_D A w9) [(aMa, .inr (6, [.ref aMa_bytes, .int (bI zAg.written), .int (iI zAg.pages), .ref aMa_globals, .int (iI zMa.steps), .ref aWa, .ref aCo, .int (iI zMa.reason), .int (iI zMa.next), .ref aMa_stack, .int (iI zAs.height), .ref aMa_functions, .ref aMa_bases, .ref aMa_returns, .int (iI zAf.depth), .int (iI zAf.variables), .int (iI zAf.values)])), (aMa_bytes, .inl (cB, 131072, .inl zMb.bytes)), (aMa_globals, .inl (cJ, 20, .inr (.inl zAg.globals)))] := ⟨hP_1, hD_1⟩
  clear hP_1 hD_1
  obtain ⟨hP_1, hD_1⟩ := hQ9
  refine lv_istore (lv' := [(6, .int (iI x_1)), (0, .ref aMa), (1, .int (iI v_op)), (2, .long v_address), (4, .long v_value)]) hx hb d_Ma_store_4 hl (by decide) rfl (fun ls hl => ?_)
  refine lv_aload_n hx hb d_Ma_store_6 rfl (lv_at hl 1 rfl) ?_
  refine lv_lload_n hx hb d_Ma_store_7 rfl (lv_at hl 3 rfl) ?_
  refine lv_iload hx hb d_Ma_store_8 (lv_at hl 0 rfl) ?_
  replace hf := obE hnb hf
  obtain ⟨x_3, e_4, hf⟩ := hf
  refine xx_callV (wc := [(aMa, .inr (6, [.ref aMa_bytes, .int (bI zAg.written), .int (iI zAg.pages), .ref aMa_globals, .int (iI zMa.steps), .ref aWa, .ref aCo, .int (iI zMa.reason), .int (iI zMa.next), .ref aMa_stack, .int (iI zAs.height), .ref aMa_functions, .ref aMa_bases, .ref aMa_returns, .int (iI zAf.depth), .int (iI zAf.variables), .int (iI zAf.values)]))]) (wr := [(aMa_bytes, .inl (cB, 131072, .inl zMb.bytes)), (aMa_globals, .inl (cJ, 20, .inr (.inl zAg.globals)))]) (As := [.long v_address, .int (iI x_1)]) (rest := []) ⟨hx, hb, hml, hown, hts⟩ xE_st hK hE hA (k_Ma_isInside l htr G cB cI cJ cZ cG aMa aMa_bytes aMa_globals aWa aCo aMa_stack aMa_functions aMa_bases aMa_returns zAg zMa zAs zAf hzAg hzMa hzAs hzAf v_address x_1 hx_1 (.ret x_3) e_4 ret_nb _) (xw_V 2 hts m_1015 m_1017 ms_Ma_isInside m_7 m_1018 (by decide +kernel) ⟨(Nat.le_of_ble_eq_true rfl), (Nat.le_of_ble_eq_true rfl)⟩) hP_1 hD_1 hS_1 [0] [1, 2] rfl rfl (by decide +kernel) (by decide +kernel) (by decide +kernel) 0 6 rfl rfl rfl rfl hl.1 rfl (Nat.le_of_ble_eq_true rfl) d_Ma_store_10 ⟨(Nat.le_of_ble_eq_true rfl), (Nat.le_of_ble_eq_true rfl)⟩ (fun v9 w9 H_2 locs_2 hp hP_2 hD_2 hS_2 => ?_) (fun x9 w9 H9 l9 hp _ _ _ => absurd hp (fun q9 => by obtain ⟨-, ho, -⟩ := q9; cases ho))
  clear hS_1 hD_1 hP_1
  obtain ⟨hx_3, ho, rfl⟩ := hp
  cases ho
  have hQ9 : (fun w9 => va_P G classes w9 H_2 ∧ va_D A w9) [(aMa_bytes, .inl (cB, 131072, .inl zMb.bytes)), (aMa_globals, .inl (cJ, 20, .inr (.inl zAg.globals))), (aMa, .inr (6, [.ref aMa_bytes, .int (bI zAg.written), .int (iI zAg.pages), .ref aMa_globals, .int (iI x_3.1.steps), .ref aWa, .ref aCo, .int (iI x_3.1.reason), .int (iI x_3.1.next), .ref aMa_stack, .int (iI zAs.height), .ref aMa_functions, .ref aMa_bases, .ref aMa_returns, .int (iI zAf.depth), .int (iI zAf.variables), .int (iI zAf.values)]))] := ⟨hP_2, hD_2⟩
  clear hP_2 hD_2
  obtain ⟨hP_2, hD_2⟩ := hQ9
  refine lv_if_ne (tgt := 17) hx hb d_Ma_store_13 (by decide) (fun c_5 => ?_) (fun c_5 => ?_)
  · have c_5 := (zb_t c_5)
    replace hf := ifp c_5 hf
    refine lv_aload_n hx hb d_Ma_store_17 rfl (lv_at hl 1 rfl) ?_
    refine lv_iconst (v := iI 1) hx hb d_Ma_store_18 (by decide) ?_
    refine W.eq (g2 := F0 m 19 ls [.int (bI true), .ref aMa]) (by rfl) ?_
    refine va_put (D := G) (ci := 6) (v := .int (bI true)) (ty := .boolean) (C := R_Ma) (T := F_Ma) (N := 17) hx hb hts i_Ma t_Ma t_Ma_ok n_Ma hown hK hP_2 hD_2 hS_2 2 rfl rfl 1 (by decide) (hts _ m_159) (fun _ h9 => h9) rfl (by decide +kernel) (bI_nar _) (bI_fit _) (Nat.le_of_ble_eq_true rfl) d_Ma_store_19 (fun H_3 locs_3 hP_3 hD_3 hS_3 => ?_)
    clear hS_2 hD_2 hP_2
    have hQ9 : (fun w9 => va_P G classes w9 H_3 ∧ va_D A w9) [(aMa_bytes, .inl (cB, 131072, .inl zMb.bytes)), (aMa_globals, .inl (cJ, 20, .inr (.inl zAg.globals))), (aMa, .inr (6, [.ref aMa_bytes, .int (bI true), .int (iI zAg.pages), .ref aMa_globals, .int (iI x_3.1.steps), .ref aWa, .ref aCo, .int (iI x_3.1.reason), .int (iI x_3.1.next), .ref aMa_stack, .int (iI zAs.height), .ref aMa_functions, .ref aMa_bases, .ref aMa_returns, .int (iI zAf.depth), .int (iI zAf.variables), .int (iI zAf.values)]))] := ⟨hP_3, hD_3⟩
    clear hP_3 hD_3
    obtain ⟨hP_3, hD_3⟩ := hQ9
    refine lv_iconst (v := iI 0) hx hb d_Ma_store_22 (by decide) ?_
    refine lv_istore (lv' := [(7, .int (iI 0)), (6, .int (iI x_1)), (0, .ref aMa), (1, .int (iI v_op)), (2, .long v_address), (4, .long v_value)]) hx hb d_Ma_store_23 hl (by decide) rfl (fun ls hl => ?_)
    refine obG hf (fun K_8 hK_8 hf => ?_)
    have hJK_8 : ∀ (y_10 : KMb × Int), KMb.Ok y_10.1 ∧ R32 y_10.2 → K_8 y_10 = R9 → ∀ (H_3 : Heap) (locs_3 : List Loc), (fun w9 => va_P G classes w9 H_3 → va_D A w9 → va_S A s.heap H_3 locs_3 → ∀ (ls : Array Slot), lv_has ls 8 [(0, .ref aMa), (1, .int (iI v_op)), (2, .long v_address), (4, .long v_value), (6, .int (iI x_1)), (7, .int (iI y_10.2))] → W p l e (headSpec (wx y_Ma_store b_Ma_store 8 none) { frames := 1, cells := 0, slots := 0, locals := 23 }).room s m ([.ref aMa, .int (iI v_op), .long v_address, .long v_value] : List Value).toArray below meth c H_3 locs_3 0 0 (MX below (XQ G classes A (pq_Ma_store cB cJ aMa aMa_bytes aMa_globals aWa aCo aMa_stack aMa_functions aMa_bases aMa_returns zAs zAf R9)) ([.ref aMa, .int (iI v_op), .long v_address, .long v_value] : List Value).toArray s 0 0 A) (F0 m 58 ls [])) [(aMa_bytes, .inl (cB, 131072, .inl y_10.1.bytes)), (aMa_globals, .inl (cJ, 20, .inr (.inl zAg.globals))), (aMa, .inr (6, [.ref aMa_bytes, .int (bI true), .int (iI zAg.pages), .ref aMa_globals, .int (iI x_3.1.steps), .ref aWa, .ref aCo, .int (iI x_3.1.reason), .int (iI x_3.1.next), .ref aMa_stack, .int (iI zAs.height), .ref aMa_functions, .ref aMa_bases, .ref aMa_returns, .int (iI zAf.depth), .int (iI zAf.variables), .int (iI zAf.values)]))] := by
      intro y_10 hy_10 hf H_6 locs_6 hP_6 hD_6 hS_6 ls hl
      clear hS_3 hD_3 hP_3
      replace hf := (congrFun hK_8 y_10).symm.trans hf
      clear hK_8
      have hP_6 := hP_6.sub (ws' := [(aMa, .inr (6, [.ref aMa_bytes, .int (bI true), .int (iI zAg.pages), .ref aMa_globals, .int (iI x_3.1.steps), .ref aWa, .ref aCo, .int (iI x_3.1.reason), .int (iI x_3.1.next), .ref aMa_stack, .int (iI zAs.height), .ref aMa_functions, .ref aMa_bases, .ref aMa_returns, .int (iI zAf.depth), .int (iI zAf.variables), .int (iI zAf.values)])), (aMa_bytes, .inl (cB, 131072, .inl y_10.1.bytes)), (aMa_globals, .inl (cJ, 20, .inr (.inl zAg.globals)))]) [2, 0, 1] rfl
      have hD_6 := hD_6.sub (ws' := [(aMa, .inr (6, [.ref aMa_bytes, .int (bI true), .int (iI zAg.pages), .ref aMa_globals, .int (iI x_3.1.steps), .ref aWa, .ref aCo, .int (iI x_3.1.reason), .int (iI x_3.1.next), .ref aMa_stack, .int (iI zAs.height), .ref aMa_functions, .ref aMa_bases, .ref aMa_returns, .int (iI zAf.depth), .int (iI zAf.variables), .int (iI zAf.values)])), (aMa_bytes, .inl (cB, 131072, .inl y_10.1.bytes)), (aMa_globals, .inl (cJ, 20, .inr (.inl zAg.globals)))]) [2, 0, 1] (by decide +kernel) rfl
      exact ex_W (fun _ h => ex_mq h) (W.vret hx hb hr (fun t ht hW => ⟨⟨_, ozr hf ⟨⟨hy_10.1, (KAg.Ok.mk hzAg.pages : KAg.Ok (KAg.mk true zAg.pages zAg.globals)), hx_3⟩, rfl, rfl⟩, by rw [ht]; exact hP_6, hD_6⟩, hS_6.F ht⟩) hS_6.2.2 d_Ma_store_58)
    clear hK_8
    have loop_25 : ∀ (n_6 : Nat) (zMb_11 : KMb) (w_k_12 : Int), KMb.Ok zMb_11 → R32 w_k_12 → ∀ (R_13 : Out Empty (KMb × Int)), L25_Ma_store fu v_address v_value x_1 n_6 zMb_11 w_k_12 = R_13 → obind R_13 K_8 = R9 → ∀ (H_3 : Heap) (locs_3 : List Loc), (fun w9 => va_P G classes w9 H_3 → va_D A w9 → va_S A s.heap H_3 locs_3 → ∀ (ls : Array Slot), lv_has ls 8 [(0, .ref aMa), (1, .int (iI v_op)), (2, .long v_address), (4, .long v_value), (6, .int (iI x_1)), (7, .int (iI w_k_12))] → W p l e (headSpec (wx y_Ma_store b_Ma_store 8 none) { frames := 1, cells := 0, slots := 0, locals := 23 }).room s m ([.ref aMa, .int (iI v_op), .long v_address, .long v_value] : List Value).toArray below meth c H_3 locs_3 0 0 (MX below (XQ G classes A (pq_Ma_store cB cJ aMa aMa_bytes aMa_globals aWa aCo aMa_stack aMa_functions aMa_bases aMa_returns zAs zAf R9)) ([.ref aMa, .int (iI v_op), .long v_address, .long v_value] : List Value).toArray s 0 0 A) (F0 m 25 ls [])) [(aMa_bytes, .inl (cB, 131072, .inl zMb_11.bytes)), (aMa_globals, .inl (cJ, 20, .inr (.inl zAg.globals))), (aMa, .inr (6, [.ref aMa_bytes, .int (bI true), .int (iI zAg.pages), .ref aMa_globals, .int (iI x_3.1.steps), .ref aWa, .ref aCo, .int (iI x_3.1.reason), .int (iI x_3.1.next), .ref aMa_stack, .int (iI zAs.height), .ref aMa_functions, .ref aMa_bases, .ref aMa_returns, .int (iI zAf.depth), .int (iI zAf.variables), .int (iI zAf.values)]))] := by
      intro n_6
      induction n_6 with
      | zero => intro zMb_11 w_k_12  hzMb_11 hw_k_12 R_13 hf hk25; subst hf; exact absurd hk25.symm hnb
      | succ n_6 ih_25 =>
        intro zMb_11 w_k_12  hzMb_11 hw_k_12 R_13 hf hk25 H_7 locs_7 hP_7 hD_7 hS_7 ls hl
        clear hS_3 hD_3 hP_3
        have hnb : R_13 ≠ .bad := ob_nb hnb hk25
        rw [L25_Ma_store.eq_2] at hf
        refine lv_iload hx hb d_Ma_store_25 (lv_at hl 5 rfl) ?_
        refine lv_iload hx hb d_Ma_store_27 (lv_at hl 4 rfl) ?_
        refine lv_icmp_ge (tgt := 58) hx hb d_Ma_store_29 (by decide) (fun c_14 => ?_) (fun c_14 => ?_)
        · have c_14 := ((zv_le (iI_t hx_1) (iI_t hw_k_12))).mp c_14
          replace hf := ifp c_14 hf
          exact hJK_8 (zMb_11, w_k_12) ⟨hzMb_11, hw_k_12⟩ (ob_r hf hk25) _ _ hP_7 hD_7 hS_7 _ (lv_sub hl [0, 1, 2, 3, 4, 5] rfl)
        · have c_14 := (fun q9 => c_14 (((zv_le (iI_t hx_1) (iI_t hw_k_12))).mpr q9))
          replace hf := ifn c_14 hf
          refine lv_aload_n hx hb d_Ma_store_32 rfl (lv_at hl 0 rfl) ?_
          refine va_get (D := G) (ci := 6) (v := .ref aMa_bytes) (C := R_Ma) (T := F_Ma) (N := 17) hx hb hts i_Ma hown hK hP_7 2 rfl rfl 0 (by decide) (hts _ m_157) (fun _ h9 => h9) rfl d_Ma_store_33 ?_
          refine lv_lload_n hx hb d_Ma_store_36 rfl (lv_at hl 2 rfl) ?_
          refine lv_l2i hx hb d_Ma_store_37 rfl ?_
          refine lv_iload hx hb d_Ma_store_38 (lv_at hl 5 rfl) ?_
          refine lv_iadd hx hb d_Ma_store_40 ?_
          refine lv_lload hx hb d_Ma_store_41 (lv_at hl 3 rfl) ?_
          refine lv_bipush (v := iI 8) hx hb d_Ma_store_43 (by decide) ?_
          refine lv_iload hx hb d_Ma_store_45 (lv_at hl 5 rfl) ?_
          refine lv_imul hx hb d_Ma_store_47 ?_
          refine lv_topi (fun x9 e9 => ?_)
          obtain rfl : x9 = iI (8 * w_k_12) := e9.trans (iI_mul _ _)
          replace hf := grd hnb hf
          obtain ⟨g_15, hf⟩ := hf
          refine lv_lshr hx hb d_Ma_store_48 rfl ?_
          refine lv_l2i hx hb d_Ma_store_49 rfl ?_
          refine lv_i2b hx hb d_Ma_store_50 rfl ?_
          refine W.eq (g2 := F0 m 51 ls [.int (((v_value >>> ((iI (8 * w_k_12)).toInt64 &&& 63)).toInt32).toInt8.toInt32), .int (iI ((v_address.toInt32 + (iI w_k_12)).toInt)), .ref aMa_bytes]) (by rw [← iI_of (v_address.toInt32 + (iI w_k_12))] <;> rfl) ?_
          replace hf := grd hnb hf
          obtain ⟨g_16, hf⟩ := hf
          refine va_bast hx hb hK hP_7 hD_7 hS_7 0 0 rfl rfl (vp_in_iI (R32_of _) g_16) d_Ma_store_51 (fun H_8 locs_8 hP_8 hD_8 hS_8 => ?_)
          clear hS_7 hD_7 hP_7
          rw [iI_clamp (R32_of _), pk_vb] at hP_8 hD_8
          have hQ9 : (fun w9 => va_P G classes w9 H_8 ∧ va_D A w9) [(aMa_bytes, .inl (cB, 131072, .inl (upd zMb_11.bytes ((v_address.toInt32 + (iI w_k_12)).toInt).toNat (((v_value >>> ((iI (8 * w_k_12)).toInt64 &&& 63)).toInt32).toInt8.toInt32)))), (aMa_globals, .inl (cJ, 20, .inr (.inl zAg.globals))), (aMa, .inr (6, [.ref aMa_bytes, .int (bI true), .int (iI zAg.pages), .ref aMa_globals, .int (iI x_3.1.steps), .ref aWa, .ref aCo, .int (iI x_3.1.reason), .int (iI x_3.1.next), .ref aMa_stack, .int (iI zAs.height), .ref aMa_functions, .ref aMa_bases, .ref aMa_returns, .int (iI zAf.depth), .int (iI zAf.variables), .int (iI zAf.values)]))] := ⟨hP_8, hD_8⟩
          clear hP_8 hD_8
          obtain ⟨hP_8, hD_8⟩ := hQ9
          replace hf := grd hnb hf
          obtain ⟨g_17, hf⟩ := hf
          refine lv_iinc (v := iI (w_k_12 + 1)) (lv' := [(7, .int (iI (w_k_12 + 1))), (0, .ref aMa), (1, .int (iI v_op)), (2, .long v_address), (4, .long v_value), (6, .int (iI x_1))]) hx hb d_Ma_store_52 hl (k := 5) rfl (iI_add _ 1) (by decide) rfl (fun ls hl => ?_)
          refine lv_goto (tgt := 25) hx hb d_Ma_store_55 (by decide) ?_
          exact ih_25 (KMb.mk (upd zMb_11.bytes ((v_address.toInt32 + (iI w_k_12)).toInt).toNat (((v_value >>> ((iI (8 * w_k_12)).toInt64 &&& 63)).toInt32).toInt8.toInt32))) (w_k_12 + 1) (KMb.Ok.mk  : KMb.Ok (KMb.mk (upd zMb_11.bytes ((v_address.toInt32 + (iI w_k_12)).toInt).toNat (((v_value >>> ((iI (8 * w_k_12)).toInt64 &&& 63)).toInt32).toInt8.toInt32)))) g_17 _ hf hk25 _ _ hP_8 hD_8 hS_8 _ (lv_sub hl [1, 2, 3, 4, 5, 0] rfl)
    exact loop_25 fu zMb 0 hzMb (show R32 (0) by decide) _ rfl hf _ _ hP_3 hD_3 hS_3 _ (lv_sub hl [2, 3, 4, 5, 1, 0] rfl)
  · have c_5 := (zb_f c_5)
    replace hf := ifn c_5 hf
    have hP_2 := hP_2.sub (ws' := [(aMa, .inr (6, [.ref aMa_bytes, .int (bI zAg.written), .int (iI zAg.pages), .ref aMa_globals, .int (iI x_3.1.steps), .ref aWa, .ref aCo, .int (iI x_3.1.reason), .int (iI x_3.1.next), .ref aMa_stack, .int (iI zAs.height), .ref aMa_functions, .ref aMa_bases, .ref aMa_returns, .int (iI zAf.depth), .int (iI zAf.variables), .int (iI zAf.values)])), (aMa_bytes, .inl (cB, 131072, .inl zMb.bytes)), (aMa_globals, .inl (cJ, 20, .inr (.inl zAg.globals)))]) [2, 0, 1] rfl
    have hD_2 := hD_2.sub (ws' := [(aMa, .inr (6, [.ref aMa_bytes, .int (bI zAg.written), .int (iI zAg.pages), .ref aMa_globals, .int (iI x_3.1.steps), .ref aWa, .ref aCo, .int (iI x_3.1.reason), .int (iI x_3.1.next), .ref aMa_stack, .int (iI zAs.height), .ref aMa_functions, .ref aMa_bases, .ref aMa_returns, .int (iI zAf.depth), .int (iI zAf.variables), .int (iI zAf.values)])), (aMa_bytes, .inl (cB, 131072, .inl zMb.bytes)), (aMa_globals, .inl (cJ, 20, .inr (.inl zAg.globals)))]) [2, 0, 1] (by decide +kernel) rfl
    exact ex_W (fun _ h => ex_mq h) (W.vret hx hb hr (fun t ht hW => ⟨⟨_, ozr hf ⟨⟨hzMb, hzAg, hx_3⟩, rfl, rfl⟩, by rw [ht]; exact hP_2, hD_2⟩, hS_2.F ht⟩) hS_2.2.2 d_Ma_store_16)
