theorem d_Mo_run_170 : decode b_Mo_run 170 = .ok (.bipush 8, 2) := by decide +kernel
theorem d_Mo_run_172 : decode b_Mo_run 172 = .ok (.invokevirtual 266, 3) := by decide +kernel
theorem d_Mo_run_175 : decode b_Mo_run 175 = .ok (.aload_n 0, 1) := by decide +kernel
theorem d_Mo_run_176 : decode b_Mo_run 176 = .ok (.iload 4, 2) := by decide +kernel
theorem d_Mo_run_178 : decode b_Mo_run 178 = .ok (.iload_n 3, 1) := by decide +kernel
theorem d_Mo_run_179 : decode b_Mo_run 179 = .ok (.invokevirtual 319, 3) := by decide +kernel
theorem d_Mo_run_182 : decode b_Mo_run 182 = .ok (.istore_n 2, 1) := by decide +kernel
theorem d_Mo_run_183 : decode b_Mo_run 183 = .ok (.goto (-149), 3) := by decide +kernel
theorem d_Mo_run_186 : decode b_Mo_run 186 = .ok (.return_, 1) := by decide +kernel
