theorem d_Mo_step_647 : decode b_Mo_step 647 = .ok (.invokevirtual 152, 3) := by decide +kernel
theorem d_Mo_step_650 : decode b_Mo_step 650 = .ok (.invokevirtual 285, 3) := by decide +kernel
theorem d_Mo_step_653 : decode b_Mo_step 653 = .ok (.iconst 1, 1) := by decide +kernel
theorem d_Mo_step_654 : decode b_Mo_step 654 = .ok (.ireturn, 1) := by decide +kernel
theorem d_Mo_step_655 : decode b_Mo_step 655 = .ok (.iload_n 1, 1) := by decide +kernel
theorem d_Mo_step_656 : decode b_Mo_step 656 = .ok (.bipush 64, 2) := by decide +kernel
theorem d_Mo_step_658 : decode b_Mo_step 658 = .ok (.if_icmp .gt 11, 3) := by decide +kernel
theorem d_Mo_step_661 : decode b_Mo_step 661 = .ok (.aload_n 0, 1) := by decide +kernel
theorem d_Mo_step_662 : decode b_Mo_step 662 = .ok (.iload_n 1, 1) := by decide +kernel
theorem d_Mo_step_663 : decode b_Mo_step 663 = .ok (.invokevirtual 335, 3) := by decide +kernel
theorem d_Mo_step_666 : decode b_Mo_step 666 = .ok (.goto 8, 3) := by decide +kernel
theorem d_Mo_step_669 : decode b_Mo_step 669 = .ok (.aload_n 0, 1) := by decide +kernel
theorem d_Mo_step_670 : decode b_Mo_step 670 = .ok (.iload_n 1, 1) := by decide +kernel
theorem d_Mo_step_671 : decode b_Mo_step 671 = .ok (.invokevirtual 338, 3) := by decide +kernel
theorem d_Mo_step_674 : decode b_Mo_step 674 = .ok (.iconst 1, 1) := by decide +kernel
theorem d_Mo_step_675 : decode b_Mo_step 675 = .ok (.ireturn, 1) := by decide +kernel
theorem d_Mo_run_0 : decode b_Mo_run 0 = .ok (.aload_n 0, 1) := by decide +kernel
theorem d_Mo_run_1 : decode b_Mo_run 1 = .ok (.iconst 0, 1) := by decide +kernel
theorem d_Mo_run_2 : decode b_Mo_run 2 = .ok (.putfield 273, 3) := by decide +kernel
theorem d_Mo_run_5 : decode b_Mo_run 5 = .ok (.aload_n 0, 1) := by decide +kernel
theorem d_Mo_run_6 : decode b_Mo_run 6 = .ok (.iconst 0, 1) := by decide +kernel
theorem d_Mo_run_7 : decode b_Mo_run 7 = .ok (.putfield 292, 3) := by decide +kernel
theorem d_Mo_run_10 : decode b_Mo_run 10 = .ok (.aload_n 0, 1) := by decide +kernel
theorem d_Mo_run_11 : decode b_Mo_run 11 = .ok (.iconst 0, 1) := by decide +kernel
theorem d_Mo_run_12 : decode b_Mo_run 12 = .ok (.putfield 311, 3) := by decide +kernel
theorem d_Mo_run_15 : decode b_Mo_run 15 = .ok (.aload_n 0, 1) := by decide +kernel
theorem d_Mo_run_16 : decode b_Mo_run 16 = .ok (.aload_n 0, 1) := by decide +kernel
theorem d_Mo_run_17 : decode b_Mo_run 17 = .ok (.getfield 27, 3) := by decide +kernel
theorem d_Mo_run_20 : decode b_Mo_run 20 = .ok (.getfield 51, 3) := by decide +kernel
theorem d_Mo_run_23 : decode b_Mo_run 23 = .ok (.putfield 20, 3) := by decide +kernel
theorem d_Mo_run_26 : decode b_Mo_run 26 = .ok (.aload_n 0, 1) := by decide +kernel
theorem d_Mo_run_27 : decode b_Mo_run 27 = .ok (.iload_n 1, 1) := by decide +kernel
theorem d_Mo_run_28 : decode b_Mo_run 28 = .ok (.iconst 0, 1) := by decide +kernel
theorem d_Mo_run_29 : decode b_Mo_run 29 = .ok (.invokevirtual 314, 3) := by decide +kernel
theorem d_Mo_run_32 : decode b_Mo_run 32 = .ok (.iconst 1, 1) := by decide +kernel
theorem d_Mo_run_33 : decode b_Mo_run 33 = .ok (.istore_n 2, 1) := by decide +kernel
theorem d_Mo_run_34 : decode b_Mo_run 34 = .ok (.iload_n 2, 1) := by decide +kernel
theorem d_Mo_run_35 : decode b_Mo_run 35 = .ok (.ifCond .eq 151, 3) := by decide +kernel
theorem d_Mo_run_38 : decode b_Mo_run 38 = .ok (.aload_n 0, 1) := by decide +kernel
theorem d_Mo_run_39 : decode b_Mo_run 39 = .ok (.getfield 17, 3) := by decide +kernel
theorem d_Mo_run_42 : decode b_Mo_run 42 = .ok (.istore_n 3, 1) := by decide +kernel
theorem d_Mo_run_43 : decode b_Mo_run 43 = .ok (.aload_n 0, 1) := by decide +kernel
theorem d_Mo_run_44 : decode b_Mo_run 44 = .ok (.invokevirtual 37, 3) := by decide +kernel
theorem d_Mo_run_47 : decode b_Mo_run 47 = .ok (.istore 4, 2) := by decide +kernel
theorem d_Mo_run_49 : decode b_Mo_run 49 = .ok (.iload 4, 2) := by decide +kernel
theorem d_Mo_run_51 : decode b_Mo_run 51 = .ok (.bipush 11, 2) := by decide +kernel
theorem d_Mo_run_53 : decode b_Mo_run 53 = .ok (.if_icmp .ne 49, 3) := by decide +kernel
theorem d_Mo_run_56 : decode b_Mo_run 56 = .ok (.aload_n 0, 1) := by decide +kernel
theorem d_Mo_run_57 : decode b_Mo_run 57 = .ok (.dup, 1) := by decide +kernel
theorem d_Mo_run_58 : decode b_Mo_run 58 = .ok (.getfield 292, 3) := by decide +kernel
theorem d_Mo_run_61 : decode b_Mo_run 61 = .ok (.iconst 1, 1) := by decide +kernel
theorem d_Mo_run_62 : decode b_Mo_run 62 = .ok (.isub, 1) := by decide +kernel
theorem d_Mo_run_63 : decode b_Mo_run 63 = .ok (.putfield 292, 3) := by decide +kernel
theorem d_Mo_run_66 : decode b_Mo_run 66 = .ok (.aload_n 0, 1) := by decide +kernel
theorem d_Mo_run_67 : decode b_Mo_run 67 = .ok (.getfield 292, 3) := by decide +kernel
theorem d_Mo_run_70 : decode b_Mo_run 70 = .ok (.aload_n 0, 1) := by decide +kernel
theorem d_Mo_run_71 : decode b_Mo_run 71 = .ok (.getfield 289, 3) := by decide +kernel
theorem d_Mo_run_74 : decode b_Mo_run 74 = .ok (.aload_n 0, 1) := by decide +kernel
theorem d_Mo_run_75 : decode b_Mo_run 75 = .ok (.getfield 273, 3) := by decide +kernel
theorem d_Mo_run_78 : decode b_Mo_run 78 = .ok (.iconst 1, 1) := by decide +kernel
theorem d_Mo_run_79 : decode b_Mo_run 79 = .ok (.isub, 1) := by decide +kernel
theorem d_Mo_run_80 : decode b_Mo_run 80 = .ok (.iaload, 1) := by decide +kernel
theorem d_Mo_run_81 : decode b_Mo_run 81 = .ok (.if_icmp .ne (-47), 3) := by decide +kernel
theorem d_Mo_run_84 : decode b_Mo_run 84 = .ok (.aload_n 0, 1) := by decide +kernel
theorem d_Mo_run_85 : decode b_Mo_run 85 = .ok (.dup, 1) := by decide +kernel
theorem d_Mo_run_86 : decode b_Mo_run 86 = .ok (.getfield 292, 3) := by decide +kernel
theorem d_Mo_run_89 : decode b_Mo_run 89 = .ok (.iconst 1, 1) := by decide +kernel
theorem d_Mo_run_90 : decode b_Mo_run 90 = .ok (.iadd, 1) := by decide +kernel
theorem d_Mo_run_91 : decode b_Mo_run 91 = .ok (.putfield 292, 3) := by decide +kernel
theorem d_Mo_run_94 : decode b_Mo_run 94 = .ok (.aload_n 0, 1) := by decide +kernel
theorem d_Mo_run_95 : decode b_Mo_run 95 = .ok (.invokevirtual 304, 3) := by decide +kernel
theorem d_Mo_run_98 : decode b_Mo_run 98 = .ok (.istore_n 2, 1) := by decide +kernel
theorem d_Mo_run_99 : decode b_Mo_run 99 = .ok (.goto (-65), 3) := by decide +kernel
theorem d_Mo_run_102 : decode b_Mo_run 102 = .ok (.iload 4, 2) := by decide +kernel
theorem d_Mo_run_104 : decode b_Mo_run 104 = .ok (.iconst 5, 1) := by decide +kernel
theorem d_Mo_run_105 : decode b_Mo_run 105 = .ok (.if_icmp .ne 39, 3) := by decide +kernel
theorem d_Mo_run_108 : decode b_Mo_run 108 = .ok (.aload_n 0, 1) := by decide +kernel
theorem d_Mo_run_109 : decode b_Mo_run 109 = .ok (.dup, 1) := by decide +kernel
theorem d_Mo_run_110 : decode b_Mo_run 110 = .ok (.getfield 292, 3) := by decide +kernel
theorem d_Mo_run_113 : decode b_Mo_run 113 = .ok (.iconst 1, 1) := by decide +kernel
theorem d_Mo_run_114 : decode b_Mo_run 114 = .ok (.isub, 1) := by decide +kernel
theorem d_Mo_run_115 : decode b_Mo_run 115 = .ok (.putfield 292, 3) := by decide +kernel
theorem d_Mo_run_118 : decode b_Mo_run 118 = .ok (.aload_n 0, 1) := by decide +kernel
theorem d_Mo_run_119 : decode b_Mo_run 119 = .ok (.aload_n 0, 1) := by decide +kernel
theorem d_Mo_run_120 : decode b_Mo_run 120 = .ok (.getfield 27, 3) := by decide +kernel
theorem d_Mo_run_123 : decode b_Mo_run 123 = .ok (.getfield 176, 3) := by decide +kernel
theorem d_Mo_run_126 : decode b_Mo_run 126 = .ok (.aload_n 0, 1) := by decide +kernel
theorem d_Mo_run_127 : decode b_Mo_run 127 = .ok (.getfield 295, 3) := by decide +kernel
theorem d_Mo_run_130 : decode b_Mo_run 130 = .ok (.aload_n 0, 1) := by decide +kernel
theorem d_Mo_run_131 : decode b_Mo_run 131 = .ok (.getfield 292, 3) := by decide +kernel
theorem d_Mo_run_134 : decode b_Mo_run 134 = .ok (.iaload, 1) := by decide +kernel
theorem d_Mo_run_135 : decode b_Mo_run 135 = .ok (.iaload, 1) := by decide +kernel
theorem d_Mo_run_136 : decode b_Mo_run 136 = .ok (.iconst 1, 1) := by decide +kernel
theorem d_Mo_run_137 : decode b_Mo_run 137 = .ok (.iadd, 1) := by decide +kernel
theorem d_Mo_run_138 : decode b_Mo_run 138 = .ok (.putfield 17, 3) := by decide +kernel
theorem d_Mo_run_141 : decode b_Mo_run 141 = .ok (.goto (-107), 3) := by decide +kernel
theorem d_Mo_run_144 : decode b_Mo_run 144 = .ok (.aload_n 0, 1) := by decide +kernel
theorem d_Mo_run_145 : decode b_Mo_run 145 = .ok (.dup, 1) := by decide +kernel
theorem d_Mo_run_146 : decode b_Mo_run 146 = .ok (.getfield 311, 3) := by decide +kernel
theorem d_Mo_run_149 : decode b_Mo_run 149 = .ok (.iconst 1, 1) := by decide +kernel
theorem d_Mo_run_150 : decode b_Mo_run 150 = .ok (.iadd, 1) := by decide +kernel
theorem d_Mo_run_151 : decode b_Mo_run 151 = .ok (.putfield 311, 3) := by decide +kernel
theorem d_Mo_run_154 : decode b_Mo_run 154 = .ok (.aload_n 0, 1) := by decide +kernel
theorem d_Mo_run_155 : decode b_Mo_run 155 = .ok (.aload_n 0, 1) := by decide +kernel
theorem d_Mo_run_156 : decode b_Mo_run 156 = .ok (.getfield 311, 3) := by decide +kernel
theorem d_Mo_run_159 : decode b_Mo_run 159 = .ok (.ldc_w 318, 3) := by decide +kernel
theorem d_Mo_run_162 : decode b_Mo_run 162 = .ok (.if_icmp .le 7, 3) := by decide +kernel
theorem d_Mo_run_165 : decode b_Mo_run 165 = .ok (.iconst 1, 1) := by decide +kernel
theorem d_Mo_run_166 : decode b_Mo_run 166 = .ok (.goto 4, 3) := by decide +kernel
theorem d_Mo_run_169 : decode b_Mo_run 169 = .ok (.iconst 0, 1) := by decide +kernel
