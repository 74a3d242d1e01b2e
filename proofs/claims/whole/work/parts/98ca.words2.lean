theorem m_1407 : Cond.methodLink R_La 68 y_Mo_module ∈ lw_good := lw_in (List.mem_append_right _ (List.mem_of_getElem? (i := 1407) (by decide +kernel))) (by decide +kernel)
theorem m_1408 : Cond.instanceMethod y_Mo_module ∈ lw_good := lw_in (List.mem_append_right _ (List.mem_of_getElem? (i := 1408) (by decide +kernel))) (by decide +kernel)
theorem m_1409 : Cond.selects R_Mo y_Mo_module y_Mo_module ∈ lw_good := lw_in (List.mem_append_right _ (List.mem_of_getElem? (i := 1409) (by decide +kernel))) (by decide +kernel)
theorem m_1410 : Cond.codeWith y_Mo_module b_Mo_module 2 (some .int) [(65, 73, 76, 8)] ∈ lw_good := lw_in (List.mem_append_right _ (List.mem_of_getElem? (i := 1410) (by decide +kernel))) (by decide +kernel)
