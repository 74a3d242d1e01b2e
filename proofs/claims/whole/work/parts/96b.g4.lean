theorem d_Mo_module_206 : decode b_Mo_module 206 = .ok (.getfield 27, 3) := by decide +kernel
theorem d_Mo_module_209 : decode b_Mo_module 209 = .ok (.getfield 57, 3) := by decide +kernel
theorem d_Mo_module_212 : decode b_Mo_module 212 = .ok (.ireturn, 1) := by decide +kernel
