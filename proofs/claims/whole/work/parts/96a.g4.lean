abbrev b_Mo_module : ByteArray := prog_14_method_54_code
def y_Mo_module : MethodName := ⟨R_Mo, "module", "()I"⟩
theorem d_Mo_module_0 : decode b_Mo_module 0 = .ok (.aload_n 0, 1) := by decide +kernel
theorem d_Mo_module_1 : decode b_Mo_module 1 = .ok (.aload_n 0, 1) := by decide +kernel
theorem d_Mo_module_2 : decode b_Mo_module 2 = .ok (.getfield 394, 3) := by decide +kernel
theorem d_Mo_module_5 : decode b_Mo_module 5 = .ok (.putfield 27, 3) := by decide +kernel
theorem d_Mo_module_8 : decode b_Mo_module 8 = .ok (.aload_n 0, 1) := by decide +kernel
theorem d_Mo_module_9 : decode b_Mo_module 9 = .ok (.getfield 27, 3) := by decide +kernel
theorem d_Mo_module_12 : decode b_Mo_module 12 = .ok (.aload_n 0, 1) := by decide +kernel
theorem d_Mo_module_13 : decode b_Mo_module 13 = .ok (.getfield 407, 3) := by decide +kernel
theorem d_Mo_module_16 : decode b_Mo_module 16 = .ok (.putfield 51, 3) := by decide +kernel
theorem d_Mo_module_19 : decode b_Mo_module 19 = .ok (.iconst 0, 1) := by decide +kernel
theorem d_Mo_module_20 : decode b_Mo_module 20 = .ok (.istore_n 1, 1) := by decide +kernel
theorem d_Mo_module_21 : decode b_Mo_module 21 = .ok (.iload_n 1, 1) := by decide +kernel
theorem d_Mo_module_22 : decode b_Mo_module 22 = .ok (.aload_n 0, 1) := by decide +kernel
theorem d_Mo_module_23 : decode b_Mo_module 23 = .ok (.getfield 407, 3) := by decide +kernel
theorem d_Mo_module_26 : decode b_Mo_module 26 = .ok (.if_icmp .ge 24, 3) := by decide +kernel
theorem d_Mo_module_29 : decode b_Mo_module 29 = .ok (.aload_n 0, 1) := by decide +kernel
theorem d_Mo_module_30 : decode b_Mo_module 30 = .ok (.getfield 27, 3) := by decide +kernel
theorem d_Mo_module_33 : decode b_Mo_module 33 = .ok (.getfield 31, 3) := by decide +kernel
theorem d_Mo_module_36 : decode b_Mo_module 36 = .ok (.iload_n 1, 1) := by decide +kernel
theorem d_Mo_module_37 : decode b_Mo_module 37 = .ok (.aload_n 0, 1) := by decide +kernel
theorem d_Mo_module_38 : decode b_Mo_module 38 = .ok (.getfield 398, 3) := by decide +kernel
theorem d_Mo_module_41 : decode b_Mo_module 41 = .ok (.iload_n 1, 1) := by decide +kernel
theorem d_Mo_module_42 : decode b_Mo_module 42 = .ok (.baload, 1) := by decide +kernel
theorem d_Mo_module_43 : decode b_Mo_module 43 = .ok (.bastore, 1) := by decide +kernel
theorem d_Mo_module_44 : decode b_Mo_module 44 = .ok (.iinc 1 1, 3) := by decide +kernel
theorem d_Mo_module_47 : decode b_Mo_module 47 = .ok (.goto (-26), 3) := by decide +kernel
theorem d_Mo_module_50 : decode b_Mo_module 50 = .ok (.aload_n 0, 1) := by decide +kernel
theorem d_Mo_module_51 : decode b_Mo_module 51 = .ok (.iconst 0, 1) := by decide +kernel
theorem d_Mo_module_52 : decode b_Mo_module 52 = .ok (.putfield 407, 3) := by decide +kernel
theorem d_Mo_module_55 : decode b_Mo_module 55 = .ok (.aload_n 0, 1) := by decide +kernel
theorem d_Mo_module_56 : decode b_Mo_module 56 = .ok (.iconst 0, 1) := by decide +kernel
theorem d_Mo_module_57 : decode b_Mo_module 57 = .ok (.putfield 417, 3) := by decide +kernel
theorem d_Mo_module_60 : decode b_Mo_module 60 = .ok (.aload_n 0, 1) := by decide +kernel
theorem d_Mo_module_61 : decode b_Mo_module 61 = .ok (.iconst 0, 1) := by decide +kernel
theorem d_Mo_module_62 : decode b_Mo_module 62 = .ok (.putfield 404, 3) := by decide +kernel
theorem d_Mo_module_65 : decode b_Mo_module 65 = .ok (.aload_n 0, 1) := by decide +kernel
theorem d_Mo_module_66 : decode b_Mo_module 66 = .ok (.invokevirtual 418, 3) := by decide +kernel
theorem d_Mo_module_69 : decode b_Mo_module 69 = .ok (.aload_n 0, 1) := by decide +kernel
theorem d_Mo_module_70 : decode b_Mo_module 70 = .ok (.invokevirtual 421, 3) := by decide +kernel
theorem d_Mo_module_73 : decode b_Mo_module 73 = .ok (.goto 27, 3) := by decide +kernel
theorem d_Mo_module_76 : decode b_Mo_module 76 = .ok (.astore_n 1, 1) := by decide +kernel
theorem d_Mo_module_77 : decode b_Mo_module 77 = .ok (.aload_n 0, 1) := by decide +kernel
theorem d_Mo_module_78 : decode b_Mo_module 78 = .ok (.aload_n 1, 1) := by decide +kernel
theorem d_Mo_module_79 : decode b_Mo_module 79 = .ok (.getfield 7, 3) := by decide +kernel
theorem d_Mo_module_82 : decode b_Mo_module 82 = .ok (.putfield 417, 3) := by decide +kernel
theorem d_Mo_module_85 : decode b_Mo_module 85 = .ok (.aload_n 0, 1) := by decide +kernel
theorem d_Mo_module_86 : decode b_Mo_module 86 = .ok (.iconst 1, 1) := by decide +kernel
theorem d_Mo_module_87 : decode b_Mo_module 87 = .ok (.putfield 404, 3) := by decide +kernel
theorem d_Mo_module_90 : decode b_Mo_module 90 = .ok (.aload_n 0, 1) := by decide +kernel
theorem d_Mo_module_91 : decode b_Mo_module 91 = .ok (.aload_n 0, 1) := by decide +kernel
theorem d_Mo_module_92 : decode b_Mo_module 92 = .ok (.getfield 391, 3) := by decide +kernel
theorem d_Mo_module_95 : decode b_Mo_module 95 = .ok (.putfield 27, 3) := by decide +kernel
theorem d_Mo_module_98 : decode b_Mo_module 98 = .ok (.iconst 0, 1) := by decide +kernel
theorem d_Mo_module_99 : decode b_Mo_module 99 = .ok (.ireturn, 1) := by decide +kernel
theorem d_Mo_module_100 : decode b_Mo_module 100 = .ok (.aload_n 0, 1) := by decide +kernel
theorem d_Mo_module_101 : decode b_Mo_module 101 = .ok (.aload_n 0, 1) := by decide +kernel
theorem d_Mo_module_102 : decode b_Mo_module 102 = .ok (.getfield 391, 3) := by decide +kernel
theorem d_Mo_module_105 : decode b_Mo_module 105 = .ok (.putfield 394, 3) := by decide +kernel
theorem d_Mo_module_108 : decode b_Mo_module 108 = .ok (.aload_n 0, 1) := by decide +kernel
theorem d_Mo_module_109 : decode b_Mo_module 109 = .ok (.aload_n 0, 1) := by decide +kernel
theorem d_Mo_module_110 : decode b_Mo_module 110 = .ok (.getfield 27, 3) := by decide +kernel
theorem d_Mo_module_113 : decode b_Mo_module 113 = .ok (.putfield 391, 3) := by decide +kernel
theorem d_Mo_module_116 : decode b_Mo_module 116 = .ok (.aload_n 0, 1) := by decide +kernel
theorem d_Mo_module_117 : decode b_Mo_module 117 = .ok (.iconst 1, 1) := by decide +kernel
theorem d_Mo_module_118 : decode b_Mo_module 118 = .ok (.putfield 424, 3) := by decide +kernel
theorem d_Mo_module_121 : decode b_Mo_module 121 = .ok (.aload_n 0, 1) := by decide +kernel
theorem d_Mo_module_122 : decode b_Mo_module 122 = .ok (.aload_n 0, 1) := by decide +kernel
theorem d_Mo_module_123 : decode b_Mo_module 123 = .ok (.getfield 27, 3) := by decide +kernel
theorem d_Mo_module_126 : decode b_Mo_module 126 = .ok (.getfield 63, 3) := by decide +kernel
theorem d_Mo_module_129 : decode b_Mo_module 129 = .ok (.ifCond .le 14, 3) := by decide +kernel
theorem d_Mo_module_132 : decode b_Mo_module 132 = .ok (.aload_n 0, 1) := by decide +kernel
theorem d_Mo_module_133 : decode b_Mo_module 133 = .ok (.getfield 27, 3) := by decide +kernel
theorem d_Mo_module_136 : decode b_Mo_module 136 = .ok (.getfield 110, 3) := by decide +kernel
theorem d_Mo_module_139 : decode b_Mo_module 139 = .ok (.l2i, 1) := by decide +kernel
theorem d_Mo_module_140 : decode b_Mo_module 140 = .ok (.goto 4, 3) := by decide +kernel
theorem d_Mo_module_143 : decode b_Mo_module 143 = .ok (.iconst 0, 1) := by decide +kernel
theorem d_Mo_module_144 : decode b_Mo_module 144 = .ok (.putfield 343, 3) := by decide +kernel
theorem d_Mo_module_147 : decode b_Mo_module 147 = .ok (.iconst 0, 1) := by decide +kernel
theorem d_Mo_module_148 : decode b_Mo_module 148 = .ok (.istore_n 1, 1) := by decide +kernel
theorem d_Mo_module_149 : decode b_Mo_module 149 = .ok (.iload_n 1, 1) := by decide +kernel
theorem d_Mo_module_150 : decode b_Mo_module 150 = .ok (.aload_n 0, 1) := by decide +kernel
theorem d_Mo_module_151 : decode b_Mo_module 151 = .ok (.getfield 348, 3) := by decide +kernel
theorem d_Mo_module_154 : decode b_Mo_module 154 = .ok (.arraylength, 1) := by decide +kernel
theorem d_Mo_module_155 : decode b_Mo_module 155 = .ok (.if_icmp .ge 16, 3) := by decide +kernel
theorem d_Mo_module_158 : decode b_Mo_module 158 = .ok (.aload_n 0, 1) := by decide +kernel
theorem d_Mo_module_159 : decode b_Mo_module 159 = .ok (.getfield 348, 3) := by decide +kernel
theorem d_Mo_module_162 : decode b_Mo_module 162 = .ok (.iload_n 1, 1) := by decide +kernel
theorem d_Mo_module_163 : decode b_Mo_module 163 = .ok (.iconst 0, 1) := by decide +kernel
theorem d_Mo_module_164 : decode b_Mo_module 164 = .ok (.bastore, 1) := by decide +kernel
theorem d_Mo_module_165 : decode b_Mo_module 165 = .ok (.iinc 1 1, 3) := by decide +kernel
theorem d_Mo_module_168 : decode b_Mo_module 168 = .ok (.goto (-19), 3) := by decide +kernel
theorem d_Mo_module_171 : decode b_Mo_module 171 = .ok (.iconst 0, 1) := by decide +kernel
theorem d_Mo_module_172 : decode b_Mo_module 172 = .ok (.istore_n 1, 1) := by decide +kernel
theorem d_Mo_module_173 : decode b_Mo_module 173 = .ok (.iload_n 1, 1) := by decide +kernel
theorem d_Mo_module_174 : decode b_Mo_module 174 = .ok (.aload_n 0, 1) := by decide +kernel
theorem d_Mo_module_175 : decode b_Mo_module 175 = .ok (.getfield 27, 3) := by decide +kernel
theorem d_Mo_module_178 : decode b_Mo_module 178 = .ok (.getfield 66, 3) := by decide +kernel
theorem d_Mo_module_181 : decode b_Mo_module 181 = .ok (.if_icmp .ge 24, 3) := by decide +kernel
theorem d_Mo_module_184 : decode b_Mo_module 184 = .ok (.aload_n 0, 1) := by decide +kernel
theorem d_Mo_module_185 : decode b_Mo_module 185 = .ok (.getfield 333, 3) := by decide +kernel
theorem d_Mo_module_188 : decode b_Mo_module 188 = .ok (.iload_n 1, 1) := by decide +kernel
theorem d_Mo_module_189 : decode b_Mo_module 189 = .ok (.aload_n 0, 1) := by decide +kernel
theorem d_Mo_module_190 : decode b_Mo_module 190 = .ok (.getfield 27, 3) := by decide +kernel
theorem d_Mo_module_193 : decode b_Mo_module 193 = .ok (.getfield 149, 3) := by decide +kernel
theorem d_Mo_module_196 : decode b_Mo_module 196 = .ok (.iload_n 1, 1) := by decide +kernel
theorem d_Mo_module_197 : decode b_Mo_module 197 = .ok (.laload, 1) := by decide +kernel
theorem d_Mo_module_198 : decode b_Mo_module 198 = .ok (.lastore, 1) := by decide +kernel
theorem d_Mo_module_199 : decode b_Mo_module 199 = .ok (.iinc 1 1, 3) := by decide +kernel
theorem d_Mo_module_202 : decode b_Mo_module 202 = .ok (.goto (-29), 3) := by decide +kernel
theorem d_Mo_module_205 : decode b_Mo_module 205 = .ok (.aload_n 0, 1) := by decide +kernel
