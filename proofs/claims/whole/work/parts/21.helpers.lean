abbrev b_La_feed : ByteArray := method_3_code
def y_La_feed : MethodName := ⟨R_La, "feed", "(LWaferRunner;IIIII[J)I"⟩
abbrev b_La_end : ByteArray := method_4_code
def y_La_end : MethodName := ⟨R_La, "end", "(LWaferRunner;I[J)I"⟩
abbrev b_La_module : ByteArray := method_5_code
def y_La_module : MethodName := ⟨R_La, "module", "(LWaferRunner;[J)I"⟩
abbrev b_La_argument : ByteArray := method_6_code
def y_La_argument : MethodName := ⟨R_La, "argument", "(LWaferRunner;J[J)I"⟩
abbrev b_La_call : ByteArray := method_7_code
def y_La_call : MethodName := ⟨R_La, "call", "(LWaferRunner;I[J)I"⟩
abbrev b_La_global : ByteArray := method_8_code
def y_La_global : MethodName := ⟨R_La, "global", "(LWaferRunner;I[J)I"⟩
abbrev b_La_memory : ByteArray := method_9_code
def y_La_memory : MethodName := ⟨R_La, "memory", "(LWaferRunner;I[J)I"⟩
abbrev b_La_count : ByteArray := method_10_code
def y_La_count : MethodName := ⟨R_La, "count", "(LWaferRunner;I[J)I"⟩
theorem d_La_feed_0 : decode b_La_feed 0 = .ok (.aload 6, 2) := by decide +kernel
theorem d_La_feed_2 : decode b_La_feed 2 = .ok (.iconst 0, 1) := by decide +kernel
theorem d_La_feed_3 : decode b_La_feed 3 = .ok (.aload_n 0, 1) := by decide +kernel
theorem d_La_feed_4 : decode b_La_feed 4 = .ok (.iload_n 1, 1) := by decide +kernel
theorem d_La_feed_5 : decode b_La_feed 5 = .ok (.iload_n 2, 1) := by decide +kernel
theorem d_La_feed_6 : decode b_La_feed 6 = .ok (.iload_n 3, 1) := by decide +kernel
theorem d_La_feed_7 : decode b_La_feed 7 = .ok (.iload 4, 2) := by decide +kernel
theorem d_La_feed_9 : decode b_La_feed 9 = .ok (.iload 5, 2) := by decide +kernel
theorem d_La_feed_11 : decode b_La_feed 11 = .ok (.invokevirtual 7, 3) := by decide +kernel
theorem d_La_feed_14 : decode b_La_feed 14 = .ok (.i2l, 1) := by decide +kernel
theorem d_La_feed_15 : decode b_La_feed 15 = .ok (.lastore, 1) := by decide +kernel
theorem d_La_feed_16 : decode b_La_feed 16 = .ok (.goto 7, 3) := by decide +kernel
theorem d_La_feed_23 : decode b_La_feed 23 = .ok (.iconst 0, 1) := by decide +kernel
theorem d_La_feed_24 : decode b_La_feed 24 = .ok (.ireturn, 1) := by decide +kernel
theorem d_La_end_0 : decode b_La_end 0 = .ok (.aload_n 2, 1) := by decide +kernel
theorem d_La_end_1 : decode b_La_end 1 = .ok (.iconst 0, 1) := by decide +kernel
theorem d_La_end_2 : decode b_La_end 2 = .ok (.aload_n 0, 1) := by decide +kernel
theorem d_La_end_3 : decode b_La_end 3 = .ok (.iload_n 1, 1) := by decide +kernel
theorem d_La_end_4 : decode b_La_end 4 = .ok (.invokevirtual 15, 3) := by decide +kernel
theorem d_La_end_7 : decode b_La_end 7 = .ok (.i2l, 1) := by decide +kernel
theorem d_La_end_8 : decode b_La_end 8 = .ok (.lastore, 1) := by decide +kernel
theorem d_La_end_9 : decode b_La_end 9 = .ok (.goto 6, 3) := by decide +kernel
theorem d_La_end_12 : decode b_La_end 12 = .ok (.astore_n 3, 1) := by decide +kernel
theorem d_La_end_13 : decode b_La_end 13 = .ok (.iconst 1, 1) := by decide +kernel
theorem d_La_end_14 : decode b_La_end 14 = .ok (.ireturn, 1) := by decide +kernel
theorem d_La_end_15 : decode b_La_end 15 = .ok (.iconst 0, 1) := by decide +kernel
theorem d_La_end_16 : decode b_La_end 16 = .ok (.ireturn, 1) := by decide +kernel
theorem d_La_module_0 : decode b_La_module 0 = .ok (.aload_n 1, 1) := by decide +kernel
theorem d_La_module_1 : decode b_La_module 1 = .ok (.iconst 0, 1) := by decide +kernel
theorem d_La_module_2 : decode b_La_module 2 = .ok (.aload_n 0, 1) := by decide +kernel
theorem d_La_module_3 : decode b_La_module 3 = .ok (.invokevirtual 21, 3) := by decide +kernel
theorem d_La_module_11 : decode b_La_module 11 = .ok (.astore_n 2, 1) := by decide +kernel
theorem d_La_module_12 : decode b_La_module 12 = .ok (.iconst 1, 1) := by decide +kernel
theorem d_La_module_13 : decode b_La_module 13 = .ok (.ireturn, 1) := by decide +kernel
theorem d_La_argument_0 : decode b_La_argument 0 = .ok (.aload_n 3, 1) := by decide +kernel
theorem d_La_argument_1 : decode b_La_argument 1 = .ok (.iconst 0, 1) := by decide +kernel
theorem d_La_argument_2 : decode b_La_argument 2 = .ok (.aload_n 0, 1) := by decide +kernel
theorem d_La_argument_3 : decode b_La_argument 3 = .ok (.lload_n 1, 1) := by decide +kernel
theorem d_La_argument_4 : decode b_La_argument 4 = .ok (.invokevirtual 27, 3) := by decide +kernel
theorem d_La_argument_7 : decode b_La_argument 7 = .ok (.i2l, 1) := by decide +kernel
theorem d_La_argument_8 : decode b_La_argument 8 = .ok (.lastore, 1) := by decide +kernel
theorem d_La_argument_9 : decode b_La_argument 9 = .ok (.goto 7, 3) := by decide +kernel
theorem d_La_argument_16 : decode b_La_argument 16 = .ok (.iconst 0, 1) := by decide +kernel
theorem d_La_argument_17 : decode b_La_argument 17 = .ok (.ireturn, 1) := by decide +kernel
theorem d_La_call_0 : decode b_La_call 0 = .ok (.aload_n 2, 1) := by decide +kernel
theorem d_La_call_1 : decode b_La_call 1 = .ok (.iconst 0, 1) := by decide +kernel
theorem d_La_call_2 : decode b_La_call 2 = .ok (.aload_n 0, 1) := by decide +kernel
theorem d_La_call_3 : decode b_La_call 3 = .ok (.iload_n 1, 1) := by decide +kernel
theorem d_La_call_4 : decode b_La_call 4 = .ok (.invokevirtual 31, 3) := by decide +kernel
theorem d_La_call_14 : decode b_La_call 14 = .ok (.astore_n 3, 1) := by decide +kernel
theorem d_La_call_15 : decode b_La_call 15 = .ok (.iconst 2, 1) := by decide +kernel
theorem d_La_call_16 : decode b_La_call 16 = .ok (.ireturn, 1) := by decide +kernel
theorem d_La_global_0 : decode b_La_global 0 = .ok (.aload_n 2, 1) := by decide +kernel
theorem d_La_global_1 : decode b_La_global 1 = .ok (.iconst 0, 1) := by decide +kernel
theorem d_La_global_2 : decode b_La_global 2 = .ok (.aload_n 0, 1) := by decide +kernel
theorem d_La_global_3 : decode b_La_global 3 = .ok (.iload_n 1, 1) := by decide +kernel
theorem d_La_global_4 : decode b_La_global 4 = .ok (.invokevirtual 39, 3) := by decide +kernel
theorem d_La_global_14 : decode b_La_global 14 = .ok (.astore_n 3, 1) := by decide +kernel
theorem d_La_global_15 : decode b_La_global 15 = .ok (.iconst 2, 1) := by decide +kernel
theorem d_La_global_16 : decode b_La_global 16 = .ok (.ireturn, 1) := by decide +kernel
theorem d_La_memory_0 : decode b_La_memory 0 = .ok (.aload_n 2, 1) := by decide +kernel
theorem d_La_memory_1 : decode b_La_memory 1 = .ok (.iconst 0, 1) := by decide +kernel
theorem d_La_memory_2 : decode b_La_memory 2 = .ok (.aload_n 0, 1) := by decide +kernel
theorem d_La_memory_3 : decode b_La_memory 3 = .ok (.iload_n 1, 1) := by decide +kernel
theorem d_La_memory_4 : decode b_La_memory 4 = .ok (.invokevirtual 42, 3) := by decide +kernel
theorem d_La_memory_15 : decode b_La_memory 15 = .ok (.astore_n 3, 1) := by decide +kernel
theorem d_La_memory_16 : decode b_La_memory 16 = .ok (.iconst 2, 1) := by decide +kernel
theorem d_La_memory_17 : decode b_La_memory 17 = .ok (.ireturn, 1) := by decide +kernel
theorem d_La_count_0 : decode b_La_count 0 = .ok (.aload_n 2, 1) := by decide +kernel
theorem d_La_count_1 : decode b_La_count 1 = .ok (.iconst 0, 1) := by decide +kernel
theorem d_La_count_2 : decode b_La_count 2 = .ok (.aload_n 0, 1) := by decide +kernel
theorem d_La_count_3 : decode b_La_count 3 = .ok (.iload_n 1, 1) := by decide +kernel
theorem d_La_count_4 : decode b_La_count 4 = .ok (.invokevirtual 45, 3) := by decide +kernel
theorem d_La_count_7 : decode b_La_count 7 = .ok (.i2l, 1) := by decide +kernel
theorem d_La_count_8 : decode b_La_count 8 = .ok (.lastore, 1) := by decide +kernel
theorem d_La_count_9 : decode b_La_count 9 = .ok (.goto 6, 3) := by decide +kernel
theorem d_La_count_12 : decode b_La_count 12 = .ok (.astore_n 3, 1) := by decide +kernel
theorem d_La_count_13 : decode b_La_count 13 = .ok (.iconst 1, 1) := by decide +kernel
theorem d_La_count_14 : decode b_La_count 14 = .ok (.ireturn, 1) := by decide +kernel
theorem d_La_count_15 : decode b_La_count 15 = .ok (.iconst 0, 1) := by decide +kernel
theorem d_La_count_16 : decode b_La_count 16 = .ok (.ireturn, 1) := by decide +kernel
theorem m_471 : Cond.code y_WR_feed b_WR_feed 6 (some .int) ∈ lw_good := lw_in (List.mem_append_right _ (List.mem_of_getElem? (i := 471) (by decide +kernel))) (by decide +kernel)
theorem m_468 : Cond.methodLink R_La 7 y_WR_feed ∈ lw_good := lw_in (List.mem_append_right _ (List.mem_of_getElem? (i := 468) (by decide +kernel))) (by decide +kernel)
theorem m_469 : Cond.instanceMethod y_WR_feed ∈ lw_good := lw_in (List.mem_append_right _ (List.mem_of_getElem? (i := 469) (by decide +kernel))) (by decide +kernel)
theorem m_470 : Cond.selects R_WR y_WR_feed y_WR_feed ∈ lw_good := lw_in (List.mem_append_right _ (List.mem_of_getElem? (i := 470) (by decide +kernel))) (by decide +kernel)
theorem m_553 : Cond.code y_WR_end b_WR_end 2 (some .int) ∈ lw_good := lw_in (List.mem_append_right _ (List.mem_of_getElem? (i := 553) (by decide +kernel))) (by decide +kernel)
theorem m_550 : Cond.methodLink R_La 15 y_WR_end ∈ lw_good := lw_in (List.mem_append_right _ (List.mem_of_getElem? (i := 550) (by decide +kernel))) (by decide +kernel)
theorem m_551 : Cond.instanceMethod y_WR_end ∈ lw_good := lw_in (List.mem_append_right _ (List.mem_of_getElem? (i := 551) (by decide +kernel))) (by decide +kernel)
theorem m_552 : Cond.selects R_WR y_WR_end y_WR_end ∈ lw_good := lw_in (List.mem_append_right _ (List.mem_of_getElem? (i := 552) (by decide +kernel))) (by decide +kernel)
theorem m_549 : Cond.classLink R_La 19 R_xA ∈ lw_good := lw_in (List.mem_append_right _ (List.mem_of_getElem? (i := 549) (by decide +kernel))) (by decide +kernel)
theorem m_577 : Cond.code y_WR_module b_WR_module 4 (some .int) ∈ lw_good := lw_in (List.mem_append_right _ (List.mem_of_getElem? (i := 577) (by decide +kernel))) (by decide +kernel)
theorem m_574 : Cond.methodLink R_La 21 y_WR_module ∈ lw_good := lw_in (List.mem_append_right _ (List.mem_of_getElem? (i := 574) (by decide +kernel))) (by decide +kernel)
theorem m_575 : Cond.instanceMethod y_WR_module ∈ lw_good := lw_in (List.mem_append_right _ (List.mem_of_getElem? (i := 575) (by decide +kernel))) (by decide +kernel)
theorem m_576 : Cond.selects R_WR y_WR_module y_WR_module ∈ lw_good := lw_in (List.mem_append_right _ (List.mem_of_getElem? (i := 576) (by decide +kernel))) (by decide +kernel)
theorem m_573 : Cond.classLink R_La 25 R_xU ∈ lw_good := lw_in (List.mem_append_right _ (List.mem_of_getElem? (i := 573) (by decide +kernel))) (by decide +kernel)
theorem m_909 : Cond.code y_WR_argument b_WR_argument 3 (some .int) ∈ lw_good := lw_in (List.mem_append_right _ (List.mem_of_getElem? (i := 909) (by decide +kernel))) (by decide +kernel)
theorem m_906 : Cond.methodLink R_La 27 y_WR_argument ∈ lw_good := lw_in (List.mem_append_right _ (List.mem_of_getElem? (i := 906) (by decide +kernel))) (by decide +kernel)
theorem m_907 : Cond.instanceMethod y_WR_argument ∈ lw_good := lw_in (List.mem_append_right _ (List.mem_of_getElem? (i := 907) (by decide +kernel))) (by decide +kernel)
theorem m_908 : Cond.selects R_WR y_WR_argument y_WR_argument ∈ lw_good := lw_in (List.mem_append_right _ (List.mem_of_getElem? (i := 908) (by decide +kernel))) (by decide +kernel)
theorem m_919 : Cond.code y_WR_call b_WR_call 3 (some .long) ∈ lw_good := lw_in (List.mem_append_right _ (List.mem_of_getElem? (i := 919) (by decide +kernel))) (by decide +kernel)
theorem m_916 : Cond.methodLink R_La 31 y_WR_call ∈ lw_good := lw_in (List.mem_append_right _ (List.mem_of_getElem? (i := 916) (by decide +kernel))) (by decide +kernel)
theorem m_917 : Cond.instanceMethod y_WR_call ∈ lw_good := lw_in (List.mem_append_right _ (List.mem_of_getElem? (i := 917) (by decide +kernel))) (by decide +kernel)
theorem m_918 : Cond.selects R_WR y_WR_call y_WR_call ∈ lw_good := lw_in (List.mem_append_right _ (List.mem_of_getElem? (i := 918) (by decide +kernel))) (by decide +kernel)
theorem m_914 : Cond.classLink R_La 35 R_xS ∈ lw_good := lw_in (List.mem_append_right _ (List.mem_of_getElem? (i := 914) (by decide +kernel))) (by decide +kernel)
theorem m_1107 : Cond.code y_WR_global b_WR_global 2 (some .long) ∈ lw_good := lw_in (List.mem_append_right _ (List.mem_of_getElem? (i := 1107) (by decide +kernel))) (by decide +kernel)
theorem m_1104 : Cond.methodLink R_La 39 y_WR_global ∈ lw_good := lw_in (List.mem_append_right _ (List.mem_of_getElem? (i := 1104) (by decide +kernel))) (by decide +kernel)
theorem m_1105 : Cond.instanceMethod y_WR_global ∈ lw_good := lw_in (List.mem_append_right _ (List.mem_of_getElem? (i := 1105) (by decide +kernel))) (by decide +kernel)
theorem m_1106 : Cond.selects R_WR y_WR_global y_WR_global ∈ lw_good := lw_in (List.mem_append_right _ (List.mem_of_getElem? (i := 1106) (by decide +kernel))) (by decide +kernel)
theorem m_1114 : Cond.code y_WR_memory b_WR_memory 2 (some .int) ∈ lw_good := lw_in (List.mem_append_right _ (List.mem_of_getElem? (i := 1114) (by decide +kernel))) (by decide +kernel)
theorem m_1111 : Cond.methodLink R_La 42 y_WR_memory ∈ lw_good := lw_in (List.mem_append_right _ (List.mem_of_getElem? (i := 1111) (by decide +kernel))) (by decide +kernel)
theorem m_1112 : Cond.instanceMethod y_WR_memory ∈ lw_good := lw_in (List.mem_append_right _ (List.mem_of_getElem? (i := 1112) (by decide +kernel))) (by decide +kernel)
theorem m_1113 : Cond.selects R_WR y_WR_memory y_WR_memory ∈ lw_good := lw_in (List.mem_append_right _ (List.mem_of_getElem? (i := 1113) (by decide +kernel))) (by decide +kernel)
theorem m_1122 : Cond.code y_WR_count b_WR_count 2 (some .int) ∈ lw_good := lw_in (List.mem_append_right _ (List.mem_of_getElem? (i := 1122) (by decide +kernel))) (by decide +kernel)
theorem m_1119 : Cond.methodLink R_La 45 y_WR_count ∈ lw_good := lw_in (List.mem_append_right _ (List.mem_of_getElem? (i := 1119) (by decide +kernel))) (by decide +kernel)
theorem m_1120 : Cond.instanceMethod y_WR_count ∈ lw_good := lw_in (List.mem_append_right _ (List.mem_of_getElem? (i := 1120) (by decide +kernel))) (by decide +kernel)
theorem m_1121 : Cond.selects R_WR y_WR_count y_WR_count ∈ lw_good := lw_in (List.mem_append_right _ (List.mem_of_getElem? (i := 1121) (by decide +kernel))) (by decide +kernel)
set_option maxHeartbeats 8000000 in
set_option maxRecDepth 100000 in
theorem c_La_feed (l : Launch) (htr : l.stackTraces = false) (G : va_G) (cB cI cJ cZ : ClassId) (h0 : Nat) (tp : Nat) (ar : Nat) (rd : Nat) (va : Nat) (ma : Nat) (cu : Nat) (sp : Nat) (t : Nat) (ac : Int32) (ld : Int32) (rs : Int32) (a0 : Int32) (a1 : Int32) (a2 : Int32) (a3 : Int32) (a4 : Int32) (f : Nat → Int32) (ou : Nat) (u : Nat → Int64) (ht : t + 20 ≤ 2000) (sz : Nat) : MetX l y_La_feed (wxW y_La_feed b_La_feed 8 (some .int) [(0, 16, 19, 13)]) { frames := 2, cells := 0, slots := 0, locals := 47 } (XP G classes (xtys cB cI cJ cZ) xE [.ref h0, .int a0, .int a1, .int a2, .int a3, .int a4, .ref ou] [(h0, .inr (0, [.ref tp, .int (nI t), .ref ar, .int ac, .ref rd, .ref va, .ref ma, .ref cu, .ref sp, .int ld, .int rs])), (tp, .inl (cB, 2000, .inl f)), (ou, .inl (cJ, 1, .inr (.inl u)))] sz) (XQ G classes (va_A [(h0, .inr (0, [.ref tp, .int (nI t), .ref ar, .int ac, .ref rd, .ref va, .ref ma, .ref cu, .ref sp, .int ld, .int rs])), (tp, .inl (cB, 2000, .inl f)), (ou, .inl (cJ, 1, .inr (.inl u)))] sz) (fun o w1 => o = .returned (some (.int 0)) ∧ w1 = [(ou, .inl (cJ, 1, .inr (.inl (vp_updL u 0 ((nI (((((t + 4) + 4) + 4) + 4) + 4)).toInt64))))), (h0, .inr (0, [.ref tp, .int (nI (((((t + 4) + 4) + 4) + 4) + 4)), .ref ar, .int ac, .ref rd, .ref va, .ref ma, .ref cu, .ref sp, .int ld, .int rs])), (tp, .inl (cB, 2000, .inl (xput4 (xput4 (xput4 (xput4 (xput4 f t a0) (t + 4) a1) ((t + 4) + 4) a2) (((t + 4) + 4) + 4) a3) ((((t + 4) + 4) + 4) + 4) a4)))])) 0 0 (va_A [(h0, .inr (0, [.ref tp, .int (nI t), .ref ar, .int ac, .ref rd, .ref va, .ref ma, .ref cu, .ref sp, .int ld, .int rs])), (tp, .inl (cB, 2000, .inl f)), (ou, .inl (cJ, 1, .inr (.inl u)))] sz) := by
  refine ex_ofWW (cc := b_La_feed) (maxL := 8) (ret := (some .int)) (by decide) rfl ?_
  intro p e s m args below meth c s₁ B hml hno hv
  obtain ⟨rfl, hsz, hP, hK, hD0, hE⟩ := hv
  have hx := B.exec
  have hb := B.bytes
  have hr := B.returns
  have hts : ∀ w ∈ lw_good, w.before _ s = true := fun w h => atoms_spec (ws := wxW y_La_feed b_La_feed 8 (some .int) [(0, 16, 19, 13)]) B.pre w (List.mem_cons_of_mem _ h)
  have hown : s.vm.findClass R_La = some m.cls := findClass_of_methodNamed B.named
  have hlocks := B.notSynchronized
  have htr9 : e.platform.stackTraces = false := by rw [B.admits.platform]; exact htr
  subst hsz
  have hNS := xx_nostat hP
  have hD := hD0.self (sz := s.heap.size)
  generalize hAe : va_A [(h0, .inr (0, [.ref tp, .int (nI t), .ref ar, .int ac, .ref rd, .ref va, .ref ma, .ref cu, .ref sp, .int ld, .int rs])), (tp, .inl (cB, 2000, .inl f)), (ou, .inl (cJ, 1, .inr (.inl u)))] s.heap.size = A at hD hE hNS ⊢
  have hA : ∀ q : Nat, s.heap.size ≤ q → A q := fun q h => by rw [← hAe]; exact Or.inr h
  have hS : va_S A s.heap s.heap [] := va_S.rf
  have hl := lv_entry ([.ref h0, .int a0, .int a1, .int a2, .int a3, .int a4, .ref ou]) (n := 8) (Nat.le_of_ble_eq_true rfl)
  rw [lg_entry_eq]
  generalize (lg_sl ([.ref h0, .int a0, .int a1, .int a2, .int a3, .int a4, .ref ou]) ++ List.replicate (8 - (lg_sl ([.ref h0, .int a0, .int a1, .int a2, .int a3, .int a4, .ref ou])).length) Slot.unset).toArray = ls at hl ⊢
  have hl : lv_has ls 8 [(0, .ref h0), (1, .int a0), (2, .int a1), (3, .int a2), (4, .int a3), (5, .int a4), (6, .ref ou)] := hl
  refine lv_aload hx hb d_La_feed_0 (lv_at hl 6 rfl) ?_
  refine lv_iconst (v := 0) hx hb d_La_feed_2 (by decide) ?_
  refine lv_aload_n hx hb d_La_feed_3 rfl (lv_at hl 0 rfl) ?_
  refine lv_iload_n hx hb d_La_feed_4 rfl (lv_at hl 1 rfl) ?_
  refine lv_iload_n hx hb d_La_feed_5 rfl (lv_at hl 2 rfl) ?_
  refine lv_iload_n hx hb d_La_feed_6 rfl (lv_at hl 3 rfl) ?_
  refine lv_iload hx hb d_La_feed_7 (lv_at hl 4 rfl) ?_
  refine lv_iload hx hb d_La_feed_9 (lv_at hl 5 rfl) ?_
  refine xx_callV (wc := [(h0, .inr (0, [.ref tp, .int (nI t), .ref ar, .int ac, .ref rd, .ref va, .ref ma, .ref cu, .ref sp, .int ld, .int rs])), (tp, .inl (cB, 2000, .inl f))]) (wr := [(ou, .inl (cJ, 1, .inr (.inl u)))]) (As := [.int a0, .int a1, .int a2, .int a3, .int a4]) (rest := [.int 0, .ref ou]) ⟨hx, hb, hml, hown, hts⟩ xE_st hK hE hA (c_WR_feed l htr G cB cI cJ cZ h0 tp ar rd va ma cu sp t ac ld rs a0 a1 a2 a3 a4 f (by omega) _) (xw_V 5 hts m_468 m_469 m_470 m_1 m_471 (by decide +kernel) ⟨(Nat.le_of_ble_eq_true rfl), (Nat.le_of_ble_eq_true rfl)⟩) hP hD hS [0, 1] [2] rfl rfl (by decide) (by decide) (by decide) 0 0 rfl rfl rfl rfl hl.1 rfl (Nat.le_of_ble_eq_true rfl) d_La_feed_11 ⟨(Nat.le_of_ble_eq_true rfl), (Nat.le_of_ble_eq_true rfl)⟩ (fun v9 w9 H locs hp hP hD hS => ?_) (fun x9 w9 H9 l9 hp _ _ _ => absurd hp (by rintro ⟨ho, -⟩; cases ho))
  obtain ⟨ho, rfl⟩ := hp
  cases ho
  have hP : va_P G classes [(ou, .inl (cJ, 1, .inr (.inl u))), (h0, .inr (0, [.ref tp, .int (nI (((((t + 4) + 4) + 4) + 4) + 4)), .ref ar, .int ac, .ref rd, .ref va, .ref ma, .ref cu, .ref sp, .int ld, .int rs])), (tp, .inl (cB, 2000, .inl (xput4 (xput4 (xput4 (xput4 (xput4 f t a0) (t + 4) a1) ((t + 4) + 4) a2) (((t + 4) + 4) + 4) a3) ((((t + 4) + 4) + 4) + 4) a4)))] H := hP
  have hD : va_D A [(ou, .inl (cJ, 1, .inr (.inl u))), (h0, .inr (0, [.ref tp, .int (nI (((((t + 4) + 4) + 4) + 4) + 4)), .ref ar, .int ac, .ref rd, .ref va, .ref ma, .ref cu, .ref sp, .int ld, .int rs])), (tp, .inl (cB, 2000, .inl (xput4 (xput4 (xput4 (xput4 (xput4 f t a0) (t + 4) a1) ((t + 4) + 4) a2) (((t + 4) + 4) + 4) a3) ((((t + 4) + 4) + 4) + 4) a4)))] := hD
  refine lv_i2l hx hb d_La_feed_14 rfl ?_
  refine va_last hx hb hK hP hD hS 0 2 rfl rfl (by unfold vp_in; decide) d_La_feed_15 (fun H locs hP hD hS => ?_)
  have hP : va_P G classes [(ou, .inl (cJ, 1, .inr (.inl (vp_updL u 0 ((nI (((((t + 4) + 4) + 4) + 4) + 4)).toInt64))))), (h0, .inr (0, [.ref tp, .int (nI (((((t + 4) + 4) + 4) + 4) + 4)), .ref ar, .int ac, .ref rd, .ref va, .ref ma, .ref cu, .ref sp, .int ld, .int rs])), (tp, .inl (cB, 2000, .inl (xput4 (xput4 (xput4 (xput4 (xput4 f t a0) (t + 4) a1) ((t + 4) + 4) a2) (((t + 4) + 4) + 4) a3) ((((t + 4) + 4) + 4) + 4) a4)))] H := hP
  have hD : va_D A [(ou, .inl (cJ, 1, .inr (.inl (vp_updL u 0 ((nI (((((t + 4) + 4) + 4) + 4) + 4)).toInt64))))), (h0, .inr (0, [.ref tp, .int (nI (((((t + 4) + 4) + 4) + 4) + 4)), .ref ar, .int ac, .ref rd, .ref va, .ref ma, .ref cu, .ref sp, .int ld, .int rs])), (tp, .inl (cB, 2000, .inl (xput4 (xput4 (xput4 (xput4 (xput4 f t a0) (t + 4) a1) ((t + 4) + 4) a2) (((t + 4) + 4) + 4) a3) ((((t + 4) + 4) + 4) + 4) a4)))] := hD
  refine lv_goto (tgt := 23) hx hb d_La_feed_16 (by decide) ?_
  refine lv_iconst (v := 0) hx hb d_La_feed_23 (by decide) ?_
  exact ex_W (fun _ h => ex_mq h) (W.iret (v := 0) hx hb hr (fun t ht hW => ⟨⟨_, ⟨rfl, rfl⟩, by rw [ht]; exact hP, hD⟩, hS.F ht⟩) hS.2.2 d_La_feed_24)
set_option maxHeartbeats 8000000 in
set_option maxRecDepth 100000 in
theorem c_La_end (l : Launch) (htr : l.stackTraces = false) (G : va_G) (cB cI cJ cZ : ClassId) (h0 : Nat) (tp : Nat) (ar : Nat) (rd : Nat) (va : Nat) (ma : Nat) (cu : Nat) (sp : Nat) (t : Nat) (ac : Int32) (ld : Int32) (rs : Int32) (ou : Nat) (u : Nat → Int64) (n : Nat) (ht : n ≤ t) (ht2 : t ≤ 2000) (sz : Nat) : MetX l y_La_end (wxW y_La_end b_La_end 4 (some .int) [(0, 9, 12, 19)]) { frames := 1, cells := 0, slots := 0, locals := 21 } (XP G classes (xtys cB cI cJ cZ) xE [.ref h0, .int (nI n), .ref ou] [(h0, .inr (0, [.ref tp, .int (nI t), .ref ar, .int ac, .ref rd, .ref va, .ref ma, .ref cu, .ref sp, .int ld, .int rs])), (ou, .inl (cJ, 1, .inr (.inl u)))] sz) (XQ G classes (va_A [(h0, .inr (0, [.ref tp, .int (nI t), .ref ar, .int ac, .ref rd, .ref va, .ref ma, .ref cu, .ref sp, .int ld, .int rs])), (ou, .inl (cJ, 1, .inr (.inl u)))] sz) (fun o w1 => o = .returned (some (.int 0)) ∧ w1 = [(ou, .inl (cJ, 1, .inr (.inl (vp_updL u 0 ((nI n).toInt64))))), (h0, .inr (0, [.ref tp, .int (nI n), .ref ar, .int ac, .ref rd, .ref va, .ref ma, .ref cu, .ref sp, .int ld, .int rs]))])) 0 0 (va_A [(h0, .inr (0, [.ref tp, .int (nI t), .ref ar, .int ac, .ref rd, .ref va, .ref ma, .ref cu, .ref sp, .int ld, .int rs])), (ou, .inl (cJ, 1, .inr (.inl u)))] sz) := by
  refine ex_ofWW (cc := b_La_end) (maxL := 4) (ret := (some .int)) (by decide) rfl ?_
  intro p e s m args below meth c s₁ B hml hno hv
  obtain ⟨rfl, hsz, hP, hK, hD0, hE⟩ := hv
  have hx := B.exec
  have hb := B.bytes
  have hr := B.returns
  have hts : ∀ w ∈ lw_good, w.before _ s = true := fun w h => atoms_spec (ws := wxW y_La_end b_La_end 4 (some .int) [(0, 9, 12, 19)]) B.pre w (List.mem_cons_of_mem _ h)
  have hown : s.vm.findClass R_La = some m.cls := findClass_of_methodNamed B.named
  have hlocks := B.notSynchronized
  have htr9 : e.platform.stackTraces = false := by rw [B.admits.platform]; exact htr
  subst hsz
  have hNS := xx_nostat hP
  have hD := hD0.self (sz := s.heap.size)
  generalize hAe : va_A [(h0, .inr (0, [.ref tp, .int (nI t), .ref ar, .int ac, .ref rd, .ref va, .ref ma, .ref cu, .ref sp, .int ld, .int rs])), (ou, .inl (cJ, 1, .inr (.inl u)))] s.heap.size = A at hD hE hNS ⊢
  have hA : ∀ q : Nat, s.heap.size ≤ q → A q := fun q h => by rw [← hAe]; exact Or.inr h
  have hS : va_S A s.heap s.heap [] := va_S.rf
  have hl := lv_entry ([.ref h0, .int (nI n), .ref ou]) (n := 4) (Nat.le_of_ble_eq_true rfl)
  rw [lg_entry_eq]
  generalize (lg_sl ([.ref h0, .int (nI n), .ref ou]) ++ List.replicate (4 - (lg_sl ([.ref h0, .int (nI n), .ref ou])).length) Slot.unset).toArray = ls at hl ⊢
  have hl : lv_has ls 4 [(0, .ref h0), (1, .int (nI n)), (2, .ref ou)] := hl
  refine lv_aload_n hx hb d_La_end_0 rfl (lv_at hl 2 rfl) ?_
  refine lv_iconst (v := 0) hx hb d_La_end_1 (by decide) ?_
  refine lv_aload_n hx hb d_La_end_2 rfl (lv_at hl 0 rfl) ?_
  refine lv_iload_n hx hb d_La_end_3 rfl (lv_at hl 1 rfl) ?_
  refine xx_callV (wc := [(h0, .inr (0, [.ref tp, .int (nI t), .ref ar, .int ac, .ref rd, .ref va, .ref ma, .ref cu, .ref sp, .int ld, .int rs]))]) (wr := [(ou, .inl (cJ, 1, .inr (.inl u)))]) (As := [.int (nI n)]) (rest := [.int 0, .ref ou]) ⟨hx, hb, hml, hown, hts⟩ xE_st hK hE hA (c_WR_end l htr G cB cI cJ cZ h0 tp ar rd va ma cu sp t ac ld rs n (by omega) (by omega) _) (xw_V 1 hts m_550 m_551 m_552 m_1 m_553 (by decide +kernel) ⟨(Nat.le_of_ble_eq_true rfl), (Nat.le_of_ble_eq_true rfl)⟩) hP hD hS [0] [1] rfl rfl (by decide) (by decide) (by decide) 0 0 rfl rfl rfl rfl hl.1 rfl (Nat.le_of_ble_eq_true rfl) d_La_end_4 ⟨(Nat.le_of_ble_eq_true rfl), (Nat.le_of_ble_eq_true rfl)⟩ (fun v9 w9 H locs hp hP hD hS => ?_) (fun x9 w9 H9 l9 hp _ _ _ => absurd hp (by rintro ⟨ho, -⟩; cases ho))
  obtain ⟨ho, rfl⟩ := hp
  cases ho
  have hP : va_P G classes [(ou, .inl (cJ, 1, .inr (.inl u))), (h0, .inr (0, [.ref tp, .int (nI n), .ref ar, .int ac, .ref rd, .ref va, .ref ma, .ref cu, .ref sp, .int ld, .int rs]))] H := hP
  have hD : va_D A [(ou, .inl (cJ, 1, .inr (.inl u))), (h0, .inr (0, [.ref tp, .int (nI n), .ref ar, .int ac, .ref rd, .ref va, .ref ma, .ref cu, .ref sp, .int ld, .int rs]))] := hD
  refine lv_i2l hx hb d_La_end_7 rfl ?_
  refine va_last hx hb hK hP hD hS 0 2 rfl rfl (by unfold vp_in; decide) d_La_end_8 (fun H locs hP hD hS => ?_)
  have hP : va_P G classes [(ou, .inl (cJ, 1, .inr (.inl (vp_updL u 0 ((nI n).toInt64))))), (h0, .inr (0, [.ref tp, .int (nI n), .ref ar, .int ac, .ref rd, .ref va, .ref ma, .ref cu, .ref sp, .int ld, .int rs]))] H := hP
  have hD : va_D A [(ou, .inl (cJ, 1, .inr (.inl (vp_updL u 0 ((nI n).toInt64))))), (h0, .inr (0, [.ref tp, .int (nI n), .ref ar, .int ac, .ref rd, .ref va, .ref ma, .ref cu, .ref sp, .int ld, .int rs]))] := hD
  refine lv_goto (tgt := 15) hx hb d_La_end_9 (by decide) ?_
  refine lv_iconst (v := 0) hx hb d_La_end_15 (by decide) ?_
  exact ex_W (fun _ h => ex_mq h) (W.iret (v := 0) hx hb hr (fun t ht hW => ⟨⟨_, ⟨rfl, rfl⟩, by rw [ht]; exact hP, hD⟩, hS.F ht⟩) hS.2.2 d_La_end_16)
set_option maxHeartbeats 8000000 in
set_option maxRecDepth 100000 in
theorem c_La_end_x (l : Launch) (htr : l.stackTraces = false) (G : va_G) (cB cI cJ cZ : ClassId) (h0 : Nat) (tp : Nat) (ar : Nat) (rd : Nat) (va : Nat) (ma : Nat) (cu : Nat) (sp : Nat) (t : Nat) (ac : Int32) (ld : Int32) (rs : Int32) (ou : Nat) (u : Nat → Int64) (n : Int32) (hn : n < 0 ∨ nI t < n) (sz : Nat) : MetX l y_La_end (wxW y_La_end b_La_end 4 (some .int) [(0, 9, 12, 19)]) { frames := 7, cells := 1, slots := 6, locals := 111 } (XP G classes (xtys cB cI cJ cZ) xE [.ref h0, .int n, .ref ou] [(h0, .inr (0, [.ref tp, .int (nI t), .ref ar, .int ac, .ref rd, .ref va, .ref ma, .ref cu, .ref sp, .int ld, .int rs])), (ou, .inl (cJ, 1, .inr (.inl u)))] sz) (XQ G classes (va_A [(h0, .inr (0, [.ref tp, .int (nI t), .ref ar, .int ac, .ref rd, .ref va, .ref ma, .ref cu, .ref sp, .int ld, .int rs])), (ou, .inl (cJ, 1, .inr (.inl u)))] sz) (fun o w1 => o = .returned (some (.int 1)) ∧ w1 = [(h0, .inr (0, [.ref tp, .int (nI t), .ref ar, .int ac, .ref rd, .ref va, .ref ma, .ref cu, .ref sp, .int ld, .int rs])), (ou, .inl (cJ, 1, .inr (.inl u)))])) 1 6 (va_A [(h0, .inr (0, [.ref tp, .int (nI t), .ref ar, .int ac, .ref rd, .ref va, .ref ma, .ref cu, .ref sp, .int ld, .int rs])), (ou, .inl (cJ, 1, .inr (.inl u)))] sz) := by
  refine ex_ofWW (cc := b_La_end) (maxL := 4) (ret := (some .int)) (by decide) rfl ?_
  intro p e s m args below meth c s₁ B hml hno hv
  obtain ⟨rfl, hsz, hP, hK, hD0, hE⟩ := hv
  have hx := B.exec
  have hb := B.bytes
  have hr := B.returns
  have hts : ∀ w ∈ lw_good, w.before _ s = true := fun w h => atoms_spec (ws := wxW y_La_end b_La_end 4 (some .int) [(0, 9, 12, 19)]) B.pre w (List.mem_cons_of_mem _ h)
  have hown : s.vm.findClass R_La = some m.cls := findClass_of_methodNamed B.named
  have hlocks := B.notSynchronized
  have htr9 : e.platform.stackTraces = false := by rw [B.admits.platform]; exact htr
  subst hsz
  have hNS := xx_nostat hP
  have hD := hD0.self (sz := s.heap.size)
  generalize hAe : va_A [(h0, .inr (0, [.ref tp, .int (nI t), .ref ar, .int ac, .ref rd, .ref va, .ref ma, .ref cu, .ref sp, .int ld, .int rs])), (ou, .inl (cJ, 1, .inr (.inl u)))] s.heap.size = A at hD hE hNS ⊢
  have hA : ∀ q : Nat, s.heap.size ≤ q → A q := fun q h => by rw [← hAe]; exact Or.inr h
  have hS : va_S A s.heap s.heap [] := va_S.rf
  have hl := lv_entry ([.ref h0, .int n, .ref ou]) (n := 4) (Nat.le_of_ble_eq_true rfl)
  rw [lg_entry_eq]
  generalize (lg_sl ([.ref h0, .int n, .ref ou]) ++ List.replicate (4 - (lg_sl ([.ref h0, .int n, .ref ou])).length) Slot.unset).toArray = ls at hl ⊢
  have hl : lv_has ls 4 [(0, .ref h0), (1, .int n), (2, .ref ou)] := hl
  refine lv_aload_n hx hb d_La_end_0 rfl (lv_at hl 2 rfl) ?_
  refine lv_iconst (v := 0) hx hb d_La_end_1 (by decide) ?_
  refine lv_aload_n hx hb d_La_end_2 rfl (lv_at hl 0 rfl) ?_
  refine lv_iload_n hx hb d_La_end_3 rfl (lv_at hl 1 rfl) ?_
  refine xx_callV (wc := [(h0, .inr (0, [.ref tp, .int (nI t), .ref ar, .int ac, .ref rd, .ref va, .ref ma, .ref cu, .ref sp, .int ld, .int rs]))]) (wr := [(ou, .inl (cJ, 1, .inr (.inl u)))]) (As := [.int n]) (rest := [.int 0, .ref ou]) ⟨hx, hb, hml, hown, hts⟩ xE_st hK hE hA (c_WR_end_x l htr G cB cI cJ cZ h0 tp ar rd va ma cu sp t ac ld rs n hn _) (xw_V 1 hts m_550 m_551 m_552 m_1 m_553 (by decide +kernel) ⟨(Nat.le_of_ble_eq_true rfl), (Nat.le_of_ble_eq_true rfl)⟩) hP hD hS [0] [1] rfl rfl (by decide) (by decide) (by decide) 0 0 rfl rfl rfl rfl hl.1 rfl (Nat.le_of_ble_eq_true rfl) d_La_end_4 ⟨(Nat.le_of_ble_eq_true rfl), (Nat.le_of_ble_eq_true rfl)⟩ (fun v9 w9 H9 l9 hp _ _ _ => absurd hp (by rintro ⟨_, ho, -⟩; cases ho)) (fun x9 w9 H locs hp hP hD hS => ?_)
  obtain ⟨q_1, ho, rfl⟩ := hp
  cases ho
  have hP : va_P G classes [(ou, .inl (cJ, 1, .inr (.inl u))), (h0, .inr (0, [.ref tp, .int (nI t), .ref ar, .int ac, .ref rd, .ref va, .ref ma, .ref cu, .ref sp, .int ld, .int rs])), (x9, .inr (14, []))] H := hP
  have hD : va_D A [(ou, .inl (cJ, 1, .inr (.inl u))), (h0, .inr (0, [.ref tp, .int (nI t), .ref ar, .int ac, .ref rd, .ref va, .ref ma, .ref cu, .ref sp, .int ld, .int rs])), (x9, .inr (14, []))] := hD
  refine xx_caught (C := R_xA) hno hown hK hP 2 14 rfl rfl ⟨[], 0, 9, 19, [], rfl, by decide, by decide, by decide, (hts _ m_549), (fun q h => absurd h List.not_mem_nil)⟩ ?_
  refine lv_astore_n (lv' := [(3, .ref x9), (0, .ref h0), (1, .int n), (2, .ref ou)]) hx hb d_La_end_12 rfl hl (by decide) rfl (fun ls hl => ?_)
  refine lv_iconst (v := 1) hx hb d_La_end_13 (by decide) ?_
  have hP := hP.sub (ws' := [(h0, .inr (0, [.ref tp, .int (nI t), .ref ar, .int ac, .ref rd, .ref va, .ref ma, .ref cu, .ref sp, .int ld, .int rs])), (ou, .inl (cJ, 1, .inr (.inl u)))]) [1, 0] rfl
  have hD := hD.sub (ws' := [(h0, .inr (0, [.ref tp, .int (nI t), .ref ar, .int ac, .ref rd, .ref va, .ref ma, .ref cu, .ref sp, .int ld, .int rs])), (ou, .inl (cJ, 1, .inr (.inl u)))]) [1, 0] (by decide) rfl
  exact ex_W (fun _ h => ex_mq h) (W.iret (v := 1) hx hb hr (fun t ht hW => ⟨⟨_, ⟨rfl, rfl⟩, by rw [ht]; exact hP, hD⟩, hS.F ht⟩) hS.2.2 d_La_end_14)
set_option maxHeartbeats 8000000 in
set_option maxRecDepth 100000 in
theorem c_La_module_0 (l : Launch) (htr : l.stackTraces = false) (G : va_G) (cB cI cJ cZ : ClassId) (h0 : Nat) (tp : Nat) (ar : Nat) (rd : Nat) (va : Nat) (ma : Nat) (cu : Nat) (br : Nat) (so : Nat) (ac : Int32) (ld : Int32) (rs : Int32) (rc : Int32) (sa : Int32) (sl : Int32) (sf : Int32) (wa : Nat) (wa1 : Nat) (wa2 : Nat) (wa3 : Nat) (wa4 : Nat) (wa5 : Nat) (wa6 : Nat) (wa7 : Nat) (wa8 : Nat) (wa9 : Nat) (wa10 : Nat) (wa11 : Nat) (w_types : Int32) (w_funs : Int32) (w_hasmem : Int32) (w_globs : Int32) (w_first : Int64) (w_most : Int64) (ex : Nat) (ex1 : Nat) (ex2 : Nat) (ex3 : Nat) (ex4 : Nat) (es : Int32) (co : Nat) (co1 : Nat) (co2 : Nat) (co3 : Nat) (co4 : Nat) (co5 : Nat) (co6 : Nat) (co7 : Nat) (co8 : Nat) (co9 : Nat) (cs : Int32) (cl : Int32) (ou : Nat) (u : Nat → Int64) (sz : Nat) : MetX l y_La_module (wxW y_La_module b_La_module 3 (some .int) [(0, 8, 11, 25)]) { frames := 7, cells := 1, slots := 6, locals := 113 } (XP G classes (xtys cB cI cJ cZ) xE [.ref h0, .ref ou] [(h0, .inr (0, [.ref tp, .int 0, .ref ar, .int ac, .ref rd, .ref va, .ref ma, .ref cu, .ref wa, .int ld, .int rs])), (rd, .inr (1, [.ref so, .ref br, .null, .int rc])), (so, .inr (3, [.null, .int sa, .int sl, .int sf])), (wa, .inr (7, [.int w_types, .ref wa1, .ref wa2, .ref wa3, .int w_funs, .ref wa4, .ref wa5, .ref wa6, .ref wa7, .int w_hasmem, .long w_first, .long w_most, .int w_globs, .ref wa8, .ref wa9, .ref wa10, .ref wa11, .ref ex, .ref co])), (ex, .inr (8, [.int es, .ref ex1, .ref ex2, .ref ex3, .ref ex4])), (co, .inr (9, [.int cs, .ref co1, .ref co2, .ref co3, .ref co4, .ref co5, .ref co6, .ref co7, .int cl, .ref co8, .ref co9])), (ou, .inl (cJ, 1, .inr (.inl u)))] sz) (XQ G classes (va_A [(h0, .inr (0, [.ref tp, .int 0, .ref ar, .int ac, .ref rd, .ref va, .ref ma, .ref cu, .ref wa, .int ld, .int rs])), (rd, .inr (1, [.ref so, .ref br, .null, .int rc])), (so, .inr (3, [.null, .int sa, .int sl, .int sf])), (wa, .inr (7, [.int w_types, .ref wa1, .ref wa2, .ref wa3, .int w_funs, .ref wa4, .ref wa5, .ref wa6, .ref wa7, .int w_hasmem, .long w_first, .long w_most, .int w_globs, .ref wa8, .ref wa9, .ref wa10, .ref wa11, .ref ex, .ref co])), (ex, .inr (8, [.int es, .ref ex1, .ref ex2, .ref ex3, .ref ex4])), (co, .inr (9, [.int cs, .ref co1, .ref co2, .ref co3, .ref co4, .ref co5, .ref co6, .ref co7, .int cl, .ref co8, .ref co9])), (ou, .inl (cJ, 1, .inr (.inl u)))] sz) (fun o w1 => o = .returned (some (.int 1)) ∧ w1 = [(h0, .inr (0, [.ref tp, .int 0, .ref ar, .int ac, .ref rd, .ref va, .ref ma, .ref cu, .ref wa, .int ld, .int 1])), (ou, .inl (cJ, 1, .inr (.inl u)))])) 1 6 (va_A [(h0, .inr (0, [.ref tp, .int 0, .ref ar, .int ac, .ref rd, .ref va, .ref ma, .ref cu, .ref wa, .int ld, .int rs])), (rd, .inr (1, [.ref so, .ref br, .null, .int rc])), (so, .inr (3, [.null, .int sa, .int sl, .int sf])), (wa, .inr (7, [.int w_types, .ref wa1, .ref wa2, .ref wa3, .int w_funs, .ref wa4, .ref wa5, .ref wa6, .ref wa7, .int w_hasmem, .long w_first, .long w_most, .int w_globs, .ref wa8, .ref wa9, .ref wa10, .ref wa11, .ref ex, .ref co])), (ex, .inr (8, [.int es, .ref ex1, .ref ex2, .ref ex3, .ref ex4])), (co, .inr (9, [.int cs, .ref co1, .ref co2, .ref co3, .ref co4, .ref co5, .ref co6, .ref co7, .int cl, .ref co8, .ref co9])), (ou, .inl (cJ, 1, .inr (.inl u)))] sz) := by
  refine ex_ofWW (cc := b_La_module) (maxL := 3) (ret := (some .int)) (by decide) rfl ?_
  intro p e s m args below meth c s₁ B hml hno hv
  obtain ⟨rfl, hsz, hP, hK, hD0, hE⟩ := hv
  have hx := B.exec
  have hb := B.bytes
  have hr := B.returns
  have hts : ∀ w ∈ lw_good, w.before _ s = true := fun w h => atoms_spec (ws := wxW y_La_module b_La_module 3 (some .int) [(0, 8, 11, 25)]) B.pre w (List.mem_cons_of_mem _ h)
  have hown : s.vm.findClass R_La = some m.cls := findClass_of_methodNamed B.named
  have hlocks := B.notSynchronized
  have htr9 : e.platform.stackTraces = false := by rw [B.admits.platform]; exact htr
  subst hsz
  have hNS := xx_nostat hP
  have hD := hD0.self (sz := s.heap.size)
  generalize hAe : va_A [(h0, .inr (0, [.ref tp, .int 0, .ref ar, .int ac, .ref rd, .ref va, .ref ma, .ref cu, .ref wa, .int ld, .int rs])), (rd, .inr (1, [.ref so, .ref br, .null, .int rc])), (so, .inr (3, [.null, .int sa, .int sl, .int sf])), (wa, .inr (7, [.int w_types, .ref wa1, .ref wa2, .ref wa3, .int w_funs, .ref wa4, .ref wa5, .ref wa6, .ref wa7, .int w_hasmem, .long w_first, .long w_most, .int w_globs, .ref wa8, .ref wa9, .ref wa10, .ref wa11, .ref ex, .ref co])), (ex, .inr (8, [.int es, .ref ex1, .ref ex2, .ref ex3, .ref ex4])), (co, .inr (9, [.int cs, .ref co1, .ref co2, .ref co3, .ref co4, .ref co5, .ref co6, .ref co7, .int cl, .ref co8, .ref co9])), (ou, .inl (cJ, 1, .inr (.inl u)))] s.heap.size = A at hD hE hNS ⊢
  have hA : ∀ q : Nat, s.heap.size ≤ q → A q := fun q h => by rw [← hAe]; exact Or.inr h
  have hS : va_S A s.heap s.heap [] := va_S.rf
  have hl := lv_entry ([.ref h0, .ref ou]) (n := 3) (Nat.le_of_ble_eq_true rfl)
  rw [lg_entry_eq]
  generalize (lg_sl ([.ref h0, .ref ou]) ++ List.replicate (3 - (lg_sl ([.ref h0, .ref ou])).length) Slot.unset).toArray = ls at hl ⊢
  have hl : lv_has ls 3 [(0, .ref h0), (1, .ref ou)] := hl
  refine lv_aload_n hx hb d_La_module_0 rfl (lv_at hl 1 rfl) ?_
  refine lv_iconst (v := 0) hx hb d_La_module_1 (by decide) ?_
  refine lv_aload_n hx hb d_La_module_2 rfl (lv_at hl 0 rfl) ?_
  refine xx_callV (wc := [(h0, .inr (0, [.ref tp, .int 0, .ref ar, .int ac, .ref rd, .ref va, .ref ma, .ref cu, .ref wa, .int ld, .int rs])), (rd, .inr (1, [.ref so, .ref br, .null, .int rc])), (so, .inr (3, [.null, .int sa, .int sl, .int sf])), (wa, .inr (7, [.int w_types, .ref wa1, .ref wa2, .ref wa3, .int w_funs, .ref wa4, .ref wa5, .ref wa6, .ref wa7, .int w_hasmem, .long w_first, .long w_most, .int w_globs, .ref wa8, .ref wa9, .ref wa10, .ref wa11, .ref ex, .ref co])), (ex, .inr (8, [.int es, .ref ex1, .ref ex2, .ref ex3, .ref ex4])), (co, .inr (9, [.int cs, .ref co1, .ref co2, .ref co3, .ref co4, .ref co5, .ref co6, .ref co7, .int cl, .ref co8, .ref co9]))]) (wr := [(ou, .inl (cJ, 1, .inr (.inl u)))]) (As := []) (rest := [.int 0, .ref ou]) ⟨hx, hb, hml, hown, hts⟩ xE_st hK hE hA (c_WR_module_0 l htr G cB cI cJ cZ h0 tp ar rd va ma cu br so ac ld rs rc sa sl sf wa wa1 wa2 wa3 wa4 wa5 wa6 wa7 wa8 wa9 wa10 wa11 w_types w_funs w_hasmem w_globs w_first w_most ex ex1 ex2 ex3 ex4 es co co1 co2 co3 co4 co5 co6 co7 co8 co9 cs cl _) (xw_V 0 hts m_574 m_575 m_576 m_1 m_577 (by decide +kernel) ⟨(Nat.le_of_ble_eq_true rfl), (Nat.le_of_ble_eq_true rfl)⟩) hP hD hS [0, 1, 2, 3, 4, 5] [6] rfl rfl (by decide) (by decide) (by decide) 0 0 rfl rfl rfl rfl hl.1 rfl (Nat.le_of_ble_eq_true rfl) d_La_module_3 ⟨(Nat.le_of_ble_eq_true rfl), (Nat.le_of_ble_eq_true rfl)⟩ (fun v9 w9 H9 l9 hp _ _ _ => absurd hp (by rintro ⟨_, ho, -⟩; cases ho)) (fun x9 w9 H locs hp hP hD hS => ?_)
  obtain ⟨q_1, ho, rfl⟩ := hp
  cases ho
  have hP : va_P G classes [(ou, .inl (cJ, 1, .inr (.inl u))), (h0, .inr (0, [.ref tp, .int 0, .ref ar, .int ac, .ref rd, .ref va, .ref ma, .ref cu, .ref wa, .int ld, .int 1])), (rd, .inr (1, [.ref so, .ref br, .ref wa, .int 0])), (wa, .inr (7, [.int 0, .ref wa1, .ref wa2, .ref wa3, .int 0, .ref wa4, .ref wa5, .ref wa6, .ref wa7, .int 0, .long 0, .long 0, .int 0, .ref wa8, .ref wa9, .ref wa10, .ref wa11, .ref ex, .ref co])), (ex, .inr (8, [.int 0, .ref ex1, .ref ex2, .ref ex3, .ref ex4])), (co, .inr (9, [.int 0, .ref co1, .ref co2, .ref co3, .ref co4, .ref co5, .ref co6, .ref co7, .int 0, .ref co8, .ref co9])), (so, .inr (3, [.ref tp, .int 0, .int 0, .int 1])), (x9, .inr (15, []))] H := hP
  have hD : va_D A [(ou, .inl (cJ, 1, .inr (.inl u))), (h0, .inr (0, [.ref tp, .int 0, .ref ar, .int ac, .ref rd, .ref va, .ref ma, .ref cu, .ref wa, .int ld, .int 1])), (rd, .inr (1, [.ref so, .ref br, .ref wa, .int 0])), (wa, .inr (7, [.int 0, .ref wa1, .ref wa2, .ref wa3, .int 0, .ref wa4, .ref wa5, .ref wa6, .ref wa7, .int 0, .long 0, .long 0, .int 0, .ref wa8, .ref wa9, .ref wa10, .ref wa11, .ref ex, .ref co])), (ex, .inr (8, [.int 0, .ref ex1, .ref ex2, .ref ex3, .ref ex4])), (co, .inr (9, [.int 0, .ref co1, .ref co2, .ref co3, .ref co4, .ref co5, .ref co6, .ref co7, .int 0, .ref co8, .ref co9])), (so, .inr (3, [.ref tp, .int 0, .int 0, .int 1])), (x9, .inr (15, []))] := hD
  refine xx_caught (C := R_xU) hno hown hK hP 7 15 rfl rfl ⟨[], 0, 8, 25, [], rfl, by decide, by decide, by decide, (hts _ m_573), (fun q h => absurd h List.not_mem_nil)⟩ ?_
  refine lv_astore_n (lv' := [(2, .ref x9), (0, .ref h0), (1, .ref ou)]) hx hb d_La_module_11 rfl hl (by decide) rfl (fun ls hl => ?_)
  refine lv_iconst (v := 1) hx hb d_La_module_12 (by decide) ?_
  have hP := hP.sub (ws' := [(h0, .inr (0, [.ref tp, .int 0, .ref ar, .int ac, .ref rd, .ref va, .ref ma, .ref cu, .ref wa, .int ld, .int 1])), (ou, .inl (cJ, 1, .inr (.inl u)))]) [1, 0] rfl
  have hD := hD.sub (ws' := [(h0, .inr (0, [.ref tp, .int 0, .ref ar, .int ac, .ref rd, .ref va, .ref ma, .ref cu, .ref wa, .int ld, .int 1])), (ou, .inl (cJ, 1, .inr (.inl u)))]) [1, 0] (by decide) rfl
  exact ex_W (fun _ h => ex_mq h) (W.iret (v := 1) hx hb hr (fun t ht hW => ⟨⟨_, ⟨rfl, rfl⟩, by rw [ht]; exact hP, hD⟩, hS.F ht⟩) hS.2.2 d_La_module_13)
set_option maxHeartbeats 8000000 in
set_option maxRecDepth 100000 in
theorem c_La_argument (l : Launch) (htr : l.stackTraces = false) (G : va_G) (cB cI cJ cZ : ClassId) (h0 : Nat) (tp : Nat) (ar : Nat) (rd : Nat) (va : Nat) (ma : Nat) (cu : Nat) (sp : Nat) (k : Nat) (tl : Int32) (ld : Int32) (rs : Int32) (v : Int64) (g : Nat → Int64) (ou : Nat) (u : Nat → Int64) (hk : k < 8) (sz : Nat) : MetX l y_La_argument (wxW y_La_argument b_La_argument 5 (some .int) [(0, 9, 12, 13)]) { frames := 1, cells := 0, slots := 0, locals := 22 } (XP G classes (xtys cB cI cJ cZ) xE [.ref h0, .long v, .ref ou] [(h0, .inr (0, [.ref tp, .int tl, .ref ar, .int (nI k), .ref rd, .ref va, .ref ma, .ref cu, .ref sp, .int ld, .int rs])), (ar, .inl (cJ, 8, .inr (.inl g))), (ou, .inl (cJ, 1, .inr (.inl u)))] sz) (XQ G classes (va_A [(h0, .inr (0, [.ref tp, .int tl, .ref ar, .int (nI k), .ref rd, .ref va, .ref ma, .ref cu, .ref sp, .int ld, .int rs])), (ar, .inl (cJ, 8, .inr (.inl g))), (ou, .inl (cJ, 1, .inr (.inl u)))] sz) (fun o w1 => o = .returned (some (.int 0)) ∧ w1 = [(ou, .inl (cJ, 1, .inr (.inl (vp_updL u 0 ((nI (k + 1)).toInt64))))), (h0, .inr (0, [.ref tp, .int tl, .ref ar, .int (nI (k + 1)), .ref rd, .ref va, .ref ma, .ref cu, .ref sp, .int ld, .int rs])), (ar, .inl (cJ, 8, .inr (.inl (vp_updL g k v))))])) 0 0 (va_A [(h0, .inr (0, [.ref tp, .int tl, .ref ar, .int (nI k), .ref rd, .ref va, .ref ma, .ref cu, .ref sp, .int ld, .int rs])), (ar, .inl (cJ, 8, .inr (.inl g))), (ou, .inl (cJ, 1, .inr (.inl u)))] sz) := by
  refine ex_ofWW (cc := b_La_argument) (maxL := 5) (ret := (some .int)) (by decide) rfl ?_
  intro p e s m args below meth c s₁ B hml hno hv
  obtain ⟨rfl, hsz, hP, hK, hD0, hE⟩ := hv
  have hx := B.exec
  have hb := B.bytes
  have hr := B.returns
  have hts : ∀ w ∈ lw_good, w.before _ s = true := fun w h => atoms_spec (ws := wxW y_La_argument b_La_argument 5 (some .int) [(0, 9, 12, 13)]) B.pre w (List.mem_cons_of_mem _ h)
  have hown : s.vm.findClass R_La = some m.cls := findClass_of_methodNamed B.named
  have hlocks := B.notSynchronized
  have htr9 : e.platform.stackTraces = false := by rw [B.admits.platform]; exact htr
  subst hsz
  have hNS := xx_nostat hP
  have hD := hD0.self (sz := s.heap.size)
  generalize hAe : va_A [(h0, .inr (0, [.ref tp, .int tl, .ref ar, .int (nI k), .ref rd, .ref va, .ref ma, .ref cu, .ref sp, .int ld, .int rs])), (ar, .inl (cJ, 8, .inr (.inl g))), (ou, .inl (cJ, 1, .inr (.inl u)))] s.heap.size = A at hD hE hNS ⊢
  have hA : ∀ q : Nat, s.heap.size ≤ q → A q := fun q h => by rw [← hAe]; exact Or.inr h
  have hS : va_S A s.heap s.heap [] := va_S.rf
  have hl := lv_entry ([.ref h0, .long v, .ref ou]) (n := 5) (Nat.le_of_ble_eq_true rfl)
  rw [lg_entry_eq]
  generalize (lg_sl ([.ref h0, .long v, .ref ou]) ++ List.replicate (5 - (lg_sl ([.ref h0, .long v, .ref ou])).length) Slot.unset).toArray = ls at hl ⊢
  have hl : lv_has ls 5 [(0, .ref h0), (1, .long v), (3, .ref ou)] := hl
  refine lv_aload_n hx hb d_La_argument_0 rfl (lv_at hl 2 rfl) ?_
  refine lv_iconst (v := 0) hx hb d_La_argument_1 (by decide) ?_
  refine lv_aload_n hx hb d_La_argument_2 rfl (lv_at hl 0 rfl) ?_
  refine lv_lload_n hx hb d_La_argument_3 rfl (lv_at hl 1 rfl) ?_
  refine xx_callV (wc := [(h0, .inr (0, [.ref tp, .int tl, .ref ar, .int (nI k), .ref rd, .ref va, .ref ma, .ref cu, .ref sp, .int ld, .int rs])), (ar, .inl (cJ, 8, .inr (.inl g)))]) (wr := [(ou, .inl (cJ, 1, .inr (.inl u)))]) (As := [.long v]) (rest := [.int 0, .ref ou]) ⟨hx, hb, hml, hown, hts⟩ xE_st hK hE hA (c_WR_argument l htr G cB cI cJ cZ h0 tp ar rd va ma cu sp k tl ld rs v g (by omega) _) (xw_V 1 hts m_906 m_907 m_908 m_1 m_909 (by decide +kernel) ⟨(Nat.le_of_ble_eq_true rfl), (Nat.le_of_ble_eq_true rfl)⟩) hP hD hS [0, 1] [2] rfl rfl (by decide) (by decide) (by decide) 0 0 rfl rfl rfl rfl hl.1 rfl (Nat.le_of_ble_eq_true rfl) d_La_argument_4 ⟨(Nat.le_of_ble_eq_true rfl), (Nat.le_of_ble_eq_true rfl)⟩ (fun v9 w9 H locs hp hP hD hS => ?_) (fun x9 w9 H9 l9 hp _ _ _ => absurd hp (by rintro ⟨ho, -⟩; cases ho))
  obtain ⟨ho, rfl⟩ := hp
  cases ho
  have hP : va_P G classes [(ou, .inl (cJ, 1, .inr (.inl u))), (h0, .inr (0, [.ref tp, .int tl, .ref ar, .int (nI (k + 1)), .ref rd, .ref va, .ref ma, .ref cu, .ref sp, .int ld, .int rs])), (ar, .inl (cJ, 8, .inr (.inl (vp_updL g k v))))] H := hP
  have hD : va_D A [(ou, .inl (cJ, 1, .inr (.inl u))), (h0, .inr (0, [.ref tp, .int tl, .ref ar, .int (nI (k + 1)), .ref rd, .ref va, .ref ma, .ref cu, .ref sp, .int ld, .int rs])), (ar, .inl (cJ, 8, .inr (.inl (vp_updL g k v))))] := hD
  refine lv_i2l hx hb d_La_argument_7 rfl ?_
  refine va_last hx hb hK hP hD hS 0 2 rfl rfl (by unfold vp_in; decide) d_La_argument_8 (fun H locs hP hD hS => ?_)
  have hP : va_P G classes [(ou, .inl (cJ, 1, .inr (.inl (vp_updL u 0 ((nI (k + 1)).toInt64))))), (h0, .inr (0, [.ref tp, .int tl, .ref ar, .int (nI (k + 1)), .ref rd, .ref va, .ref ma, .ref cu, .ref sp, .int ld, .int rs])), (ar, .inl (cJ, 8, .inr (.inl (vp_updL g k v))))] H := hP
  have hD : va_D A [(ou, .inl (cJ, 1, .inr (.inl (vp_updL u 0 ((nI (k + 1)).toInt64))))), (h0, .inr (0, [.ref tp, .int tl, .ref ar, .int (nI (k + 1)), .ref rd, .ref va, .ref ma, .ref cu, .ref sp, .int ld, .int rs])), (ar, .inl (cJ, 8, .inr (.inl (vp_updL g k v))))] := hD
  refine lv_goto (tgt := 16) hx hb d_La_argument_9 (by decide) ?_
  refine lv_iconst (v := 0) hx hb d_La_argument_16 (by decide) ?_
  exact ex_W (fun _ h => ex_mq h) (W.iret (v := 0) hx hb hr (fun t ht hW => ⟨⟨_, ⟨rfl, rfl⟩, by rw [ht]; exact hP, hD⟩, hS.F ht⟩) hS.2.2 d_La_argument_17)
set_option maxHeartbeats 8000000 in
set_option maxRecDepth 100000 in
theorem c_La_call_0 (l : Launch) (htr : l.stackTraces = false) (G : va_G) (cB cI cJ cZ : ClassId) (h0 : Nat) (tp : Nat) (ar : Nat) (rd : Nat) (va : Nat) (ma : Nat) (cu : Nat) (sp : Nat) (tl : Int32) (ac : Int32) (rs : Int32) (n : Int32) (ou : Nat) (u : Nat → Int64) (sz : Nat) : MetX l y_La_call (wxW y_La_call b_La_call 4 (some .int) [(0, 8, 11, 19), (0, 8, 14, 35), (0, 8, 17, 37)]) { frames := 8, cells := 1, slots := 6, locals := 132 } (XP G classes (xtys cB cI cJ cZ) xE [.ref h0, .int n, .ref ou] [(h0, .inr (0, [.ref tp, .int tl, .ref ar, .int ac, .ref rd, .ref va, .ref ma, .ref cu, .ref sp, .int 0, .int rs])), (ou, .inl (cJ, 1, .inr (.inl u)))] sz) (XQ G classes (va_A [(h0, .inr (0, [.ref tp, .int tl, .ref ar, .int ac, .ref rd, .ref va, .ref ma, .ref cu, .ref sp, .int 0, .int rs])), (ou, .inl (cJ, 1, .inr (.inl u)))] sz) (fun o w1 => o = .returned (some (.int 2)) ∧ w1 = [(h0, .inr (0, [.ref tp, .int tl, .ref ar, .int ac, .ref rd, .ref va, .ref ma, .ref cu, .ref sp, .int 0, .int rs])), (ou, .inl (cJ, 1, .inr (.inl u)))])) 1 6 (va_A [(h0, .inr (0, [.ref tp, .int tl, .ref ar, .int ac, .ref rd, .ref va, .ref ma, .ref cu, .ref sp, .int 0, .int rs])), (ou, .inl (cJ, 1, .inr (.inl u)))] sz) := by
  refine ex_ofWW (cc := b_La_call) (maxL := 4) (ret := (some .int)) (by decide) rfl ?_
  intro p e s m args below meth c s₁ B hml hno hv
  obtain ⟨rfl, hsz, hP, hK, hD0, hE⟩ := hv
  have hx := B.exec
  have hb := B.bytes
  have hr := B.returns
  have hts : ∀ w ∈ lw_good, w.before _ s = true := fun w h => atoms_spec (ws := wxW y_La_call b_La_call 4 (some .int) [(0, 8, 11, 19), (0, 8, 14, 35), (0, 8, 17, 37)]) B.pre w (List.mem_cons_of_mem _ h)
  have hown : s.vm.findClass R_La = some m.cls := findClass_of_methodNamed B.named
  have hlocks := B.notSynchronized
  have htr9 : e.platform.stackTraces = false := by rw [B.admits.platform]; exact htr
  subst hsz
  have hNS := xx_nostat hP
  have hD := hD0.self (sz := s.heap.size)
  generalize hAe : va_A [(h0, .inr (0, [.ref tp, .int tl, .ref ar, .int ac, .ref rd, .ref va, .ref ma, .ref cu, .ref sp, .int 0, .int rs])), (ou, .inl (cJ, 1, .inr (.inl u)))] s.heap.size = A at hD hE hNS ⊢
  have hA : ∀ q : Nat, s.heap.size ≤ q → A q := fun q h => by rw [← hAe]; exact Or.inr h
  have hS : va_S A s.heap s.heap [] := va_S.rf
  have hl := lv_entry ([.ref h0, .int n, .ref ou]) (n := 4) (Nat.le_of_ble_eq_true rfl)
  rw [lg_entry_eq]
  generalize (lg_sl ([.ref h0, .int n, .ref ou]) ++ List.replicate (4 - (lg_sl ([.ref h0, .int n, .ref ou])).length) Slot.unset).toArray = ls at hl ⊢
  have hl : lv_has ls 4 [(0, .ref h0), (1, .int n), (2, .ref ou)] := hl
  refine lv_aload_n hx hb d_La_call_0 rfl (lv_at hl 2 rfl) ?_
  refine lv_iconst (v := 0) hx hb d_La_call_1 (by decide) ?_
  refine lv_aload_n hx hb d_La_call_2 rfl (lv_at hl 0 rfl) ?_
  refine lv_iload_n hx hb d_La_call_3 rfl (lv_at hl 1 rfl) ?_
  refine xx_callV (wc := [(h0, .inr (0, [.ref tp, .int tl, .ref ar, .int ac, .ref rd, .ref va, .ref ma, .ref cu, .ref sp, .int 0, .int rs]))]) (wr := [(ou, .inl (cJ, 1, .inr (.inl u)))]) (As := [.int n]) (rest := [.int 0, .ref ou]) ⟨hx, hb, hml, hown, hts⟩ xE_st hK hE hA (c_WR_call_0 l htr G cB cI cJ cZ h0 tp ar rd va ma cu sp tl ac rs n _) (xw_V 1 hts m_916 m_917 m_918 m_1 m_919 (by decide +kernel) ⟨(Nat.le_of_ble_eq_true rfl), (Nat.le_of_ble_eq_true rfl)⟩) hP hD hS [0] [1] rfl rfl (by decide) (by decide) (by decide) 0 0 rfl rfl rfl rfl hl.1 rfl (Nat.le_of_ble_eq_true rfl) d_La_call_4 ⟨(Nat.le_of_ble_eq_true rfl), (Nat.le_of_ble_eq_true rfl)⟩ (fun v9 w9 H9 l9 hp _ _ _ => absurd hp (by rintro ⟨_, ho, -⟩; cases ho)) (fun x9 w9 H locs hp hP hD hS => ?_)
  obtain ⟨q_1, ho, rfl⟩ := hp
  cases ho
  have hP : va_P G classes [(ou, .inl (cJ, 1, .inr (.inl u))), (h0, .inr (0, [.ref tp, .int tl, .ref ar, .int ac, .ref rd, .ref va, .ref ma, .ref cu, .ref sp, .int 0, .int rs])), (x9, .inr (16, []))] H := hP
  have hD : va_D A [(ou, .inl (cJ, 1, .inr (.inl u))), (h0, .inr (0, [.ref tp, .int tl, .ref ar, .int ac, .ref rd, .ref va, .ref ma, .ref cu, .ref sp, .int 0, .int rs])), (x9, .inr (16, []))] := hD
  refine xx_caught (C := R_xS) hno hown hK hP 2 16 rfl rfl ⟨[(0, 8, 11, 19)], 0, 8, 35, [(0, 8, 17, 37)], rfl, by decide, by decide, by decide, (hts _ m_914), (fun q h => by rw [List.mem_singleton] at h; subst h; exact ⟨by decide, by decide, by decide, "java/lang/IllegalArgumentException", (hts _ m_549), xE_nc hE (by decide)⟩)⟩ ?_
  refine lv_astore_n (lv' := [(3, .ref x9), (0, .ref h0), (1, .int n), (2, .ref ou)]) hx hb d_La_call_14 rfl hl (by decide) rfl (fun ls hl => ?_)
  refine lv_iconst (v := 2) hx hb d_La_call_15 (by decide) ?_
  have hP := hP.sub (ws' := [(h0, .inr (0, [.ref tp, .int tl, .ref ar, .int ac, .ref rd, .ref va, .ref ma, .ref cu, .ref sp, .int 0, .int rs])), (ou, .inl (cJ, 1, .inr (.inl u)))]) [1, 0] rfl
  have hD := hD.sub (ws' := [(h0, .inr (0, [.ref tp, .int tl, .ref ar, .int ac, .ref rd, .ref va, .ref ma, .ref cu, .ref sp, .int 0, .int rs])), (ou, .inl (cJ, 1, .inr (.inl u)))]) [1, 0] (by decide) rfl
  exact ex_W (fun _ h => ex_mq h) (W.iret (v := 2) hx hb hr (fun t ht hW => ⟨⟨_, ⟨rfl, rfl⟩, by rw [ht]; exact hP, hD⟩, hS.F ht⟩) hS.2.2 d_La_call_16)
set_option maxHeartbeats 8000000 in
set_option maxRecDepth 100000 in
theorem c_La_global_0 (l : Launch) (htr : l.stackTraces = false) (G : va_G) (cB cI cJ cZ : ClassId) (h0 : Nat) (tp : Nat) (ar : Nat) (rd : Nat) (va : Nat) (ma : Nat) (cu : Nat) (sp : Nat) (tl : Int32) (ac : Int32) (rs : Int32) (n : Int32) (ou : Nat) (u : Nat → Int64) (sz : Nat) : MetX l y_La_global (wxW y_La_global b_La_global 4 (some .int) [(0, 8, 11, 19), (0, 8, 14, 35)]) { frames := 8, cells := 1, slots := 6, locals := 131 } (XP G classes (xtys cB cI cJ cZ) xE [.ref h0, .int n, .ref ou] [(h0, .inr (0, [.ref tp, .int tl, .ref ar, .int ac, .ref rd, .ref va, .ref ma, .ref cu, .ref sp, .int 0, .int rs])), (ou, .inl (cJ, 1, .inr (.inl u)))] sz) (XQ G classes (va_A [(h0, .inr (0, [.ref tp, .int tl, .ref ar, .int ac, .ref rd, .ref va, .ref ma, .ref cu, .ref sp, .int 0, .int rs])), (ou, .inl (cJ, 1, .inr (.inl u)))] sz) (fun o w1 => o = .returned (some (.int 2)) ∧ w1 = [(h0, .inr (0, [.ref tp, .int tl, .ref ar, .int ac, .ref rd, .ref va, .ref ma, .ref cu, .ref sp, .int 0, .int rs])), (ou, .inl (cJ, 1, .inr (.inl u)))])) 1 6 (va_A [(h0, .inr (0, [.ref tp, .int tl, .ref ar, .int ac, .ref rd, .ref va, .ref ma, .ref cu, .ref sp, .int 0, .int rs])), (ou, .inl (cJ, 1, .inr (.inl u)))] sz) := by
  refine ex_ofWW (cc := b_La_global) (maxL := 4) (ret := (some .int)) (by decide) rfl ?_
  intro p e s m args below meth c s₁ B hml hno hv
  obtain ⟨rfl, hsz, hP, hK, hD0, hE⟩ := hv
  have hx := B.exec
  have hb := B.bytes
  have hr := B.returns
  have hts : ∀ w ∈ lw_good, w.before _ s = true := fun w h => atoms_spec (ws := wxW y_La_global b_La_global 4 (some .int) [(0, 8, 11, 19), (0, 8, 14, 35)]) B.pre w (List.mem_cons_of_mem _ h)
  have hown : s.vm.findClass R_La = some m.cls := findClass_of_methodNamed B.named
  have hlocks := B.notSynchronized
  have htr9 : e.platform.stackTraces = false := by rw [B.admits.platform]; exact htr
  subst hsz
  have hNS := xx_nostat hP
  have hD := hD0.self (sz := s.heap.size)
  generalize hAe : va_A [(h0, .inr (0, [.ref tp, .int tl, .ref ar, .int ac, .ref rd, .ref va, .ref ma, .ref cu, .ref sp, .int 0, .int rs])), (ou, .inl (cJ, 1, .inr (.inl u)))] s.heap.size = A at hD hE hNS ⊢
  have hA : ∀ q : Nat, s.heap.size ≤ q → A q := fun q h => by rw [← hAe]; exact Or.inr h
  have hS : va_S A s.heap s.heap [] := va_S.rf
  have hl := lv_entry ([.ref h0, .int n, .ref ou]) (n := 4) (Nat.le_of_ble_eq_true rfl)
  rw [lg_entry_eq]
  generalize (lg_sl ([.ref h0, .int n, .ref ou]) ++ List.replicate (4 - (lg_sl ([.ref h0, .int n, .ref ou])).length) Slot.unset).toArray = ls at hl ⊢
  have hl : lv_has ls 4 [(0, .ref h0), (1, .int n), (2, .ref ou)] := hl
  refine lv_aload_n hx hb d_La_global_0 rfl (lv_at hl 2 rfl) ?_
  refine lv_iconst (v := 0) hx hb d_La_global_1 (by decide) ?_
  refine lv_aload_n hx hb d_La_global_2 rfl (lv_at hl 0 rfl) ?_
  refine lv_iload_n hx hb d_La_global_3 rfl (lv_at hl 1 rfl) ?_
  refine xx_callV (wc := [(h0, .inr (0, [.ref tp, .int tl, .ref ar, .int ac, .ref rd, .ref va, .ref ma, .ref cu, .ref sp, .int 0, .int rs]))]) (wr := [(ou, .inl (cJ, 1, .inr (.inl u)))]) (As := [.int n]) (rest := [.int 0, .ref ou]) ⟨hx, hb, hml, hown, hts⟩ xE_st hK hE hA (c_WR_global_0 l htr G cB cI cJ cZ h0 tp ar rd va ma cu sp tl ac rs n _) (xw_V 1 hts m_1104 m_1105 m_1106 m_1 m_1107 (by decide +kernel) ⟨(Nat.le_of_ble_eq_true rfl), (Nat.le_of_ble_eq_true rfl)⟩) hP hD hS [0] [1] rfl rfl (by decide) (by decide) (by decide) 0 0 rfl rfl rfl rfl hl.1 rfl (Nat.le_of_ble_eq_true rfl) d_La_global_4 ⟨(Nat.le_of_ble_eq_true rfl), (Nat.le_of_ble_eq_true rfl)⟩ (fun v9 w9 H9 l9 hp _ _ _ => absurd hp (by rintro ⟨_, ho, -⟩; cases ho)) (fun x9 w9 H locs hp hP hD hS => ?_)
  obtain ⟨q_1, ho, rfl⟩ := hp
  cases ho
  have hP : va_P G classes [(ou, .inl (cJ, 1, .inr (.inl u))), (h0, .inr (0, [.ref tp, .int tl, .ref ar, .int ac, .ref rd, .ref va, .ref ma, .ref cu, .ref sp, .int 0, .int rs])), (x9, .inr (16, []))] H := hP
  have hD : va_D A [(ou, .inl (cJ, 1, .inr (.inl u))), (h0, .inr (0, [.ref tp, .int tl, .ref ar, .int ac, .ref rd, .ref va, .ref ma, .ref cu, .ref sp, .int 0, .int rs])), (x9, .inr (16, []))] := hD
  refine xx_caught (C := R_xS) hno hown hK hP 2 16 rfl rfl ⟨[(0, 8, 11, 19)], 0, 8, 35, [], rfl, by decide, by decide, by decide, (hts _ m_914), (fun q h => by rw [List.mem_singleton] at h; subst h; exact ⟨by decide, by decide, by decide, "java/lang/IllegalArgumentException", (hts _ m_549), xE_nc hE (by decide)⟩)⟩ ?_
  refine lv_astore_n (lv' := [(3, .ref x9), (0, .ref h0), (1, .int n), (2, .ref ou)]) hx hb d_La_global_14 rfl hl (by decide) rfl (fun ls hl => ?_)
  refine lv_iconst (v := 2) hx hb d_La_global_15 (by decide) ?_
  have hP := hP.sub (ws' := [(h0, .inr (0, [.ref tp, .int tl, .ref ar, .int ac, .ref rd, .ref va, .ref ma, .ref cu, .ref sp, .int 0, .int rs])), (ou, .inl (cJ, 1, .inr (.inl u)))]) [1, 0] rfl
  have hD := hD.sub (ws' := [(h0, .inr (0, [.ref tp, .int tl, .ref ar, .int ac, .ref rd, .ref va, .ref ma, .ref cu, .ref sp, .int 0, .int rs])), (ou, .inl (cJ, 1, .inr (.inl u)))]) [1, 0] (by decide) rfl
  exact ex_W (fun _ h => ex_mq h) (W.iret (v := 2) hx hb hr (fun t ht hW => ⟨⟨_, ⟨rfl, rfl⟩, by rw [ht]; exact hP, hD⟩, hS.F ht⟩) hS.2.2 d_La_global_16)
set_option maxHeartbeats 8000000 in
set_option maxRecDepth 100000 in
theorem c_La_memory_0 (l : Launch) (htr : l.stackTraces = false) (G : va_G) (cB cI cJ cZ : ClassId) (h0 : Nat) (tp : Nat) (ar : Nat) (rd : Nat) (va : Nat) (ma : Nat) (cu : Nat) (sp : Nat) (tl : Int32) (ac : Int32) (rs : Int32) (n : Int32) (ou : Nat) (u : Nat → Int64) (sz : Nat) : MetX l y_La_memory (wxW y_La_memory b_La_memory 4 (some .int) [(0, 9, 12, 19), (0, 9, 15, 35)]) { frames := 8, cells := 1, slots := 6, locals := 131 } (XP G classes (xtys cB cI cJ cZ) xE [.ref h0, .int n, .ref ou] [(h0, .inr (0, [.ref tp, .int tl, .ref ar, .int ac, .ref rd, .ref va, .ref ma, .ref cu, .ref sp, .int 0, .int rs])), (ou, .inl (cJ, 1, .inr (.inl u)))] sz) (XQ G classes (va_A [(h0, .inr (0, [.ref tp, .int tl, .ref ar, .int ac, .ref rd, .ref va, .ref ma, .ref cu, .ref sp, .int 0, .int rs])), (ou, .inl (cJ, 1, .inr (.inl u)))] sz) (fun o w1 => o = .returned (some (.int 2)) ∧ w1 = [(h0, .inr (0, [.ref tp, .int tl, .ref ar, .int ac, .ref rd, .ref va, .ref ma, .ref cu, .ref sp, .int 0, .int rs])), (ou, .inl (cJ, 1, .inr (.inl u)))])) 1 6 (va_A [(h0, .inr (0, [.ref tp, .int tl, .ref ar, .int ac, .ref rd, .ref va, .ref ma, .ref cu, .ref sp, .int 0, .int rs])), (ou, .inl (cJ, 1, .inr (.inl u)))] sz) := by
  refine ex_ofWW (cc := b_La_memory) (maxL := 4) (ret := (some .int)) (by decide) rfl ?_
  intro p e s m args below meth c s₁ B hml hno hv
  obtain ⟨rfl, hsz, hP, hK, hD0, hE⟩ := hv
  have hx := B.exec
  have hb := B.bytes
  have hr := B.returns
  have hts : ∀ w ∈ lw_good, w.before _ s = true := fun w h => atoms_spec (ws := wxW y_La_memory b_La_memory 4 (some .int) [(0, 9, 12, 19), (0, 9, 15, 35)]) B.pre w (List.mem_cons_of_mem _ h)
  have hown : s.vm.findClass R_La = some m.cls := findClass_of_methodNamed B.named
  have hlocks := B.notSynchronized
  have htr9 : e.platform.stackTraces = false := by rw [B.admits.platform]; exact htr
  subst hsz
  have hNS := xx_nostat hP
  have hD := hD0.self (sz := s.heap.size)
  generalize hAe : va_A [(h0, .inr (0, [.ref tp, .int tl, .ref ar, .int ac, .ref rd, .ref va, .ref ma, .ref cu, .ref sp, .int 0, .int rs])), (ou, .inl (cJ, 1, .inr (.inl u)))] s.heap.size = A at hD hE hNS ⊢
  have hA : ∀ q : Nat, s.heap.size ≤ q → A q := fun q h => by rw [← hAe]; exact Or.inr h
  have hS : va_S A s.heap s.heap [] := va_S.rf
  have hl := lv_entry ([.ref h0, .int n, .ref ou]) (n := 4) (Nat.le_of_ble_eq_true rfl)
  rw [lg_entry_eq]
  generalize (lg_sl ([.ref h0, .int n, .ref ou]) ++ List.replicate (4 - (lg_sl ([.ref h0, .int n, .ref ou])).length) Slot.unset).toArray = ls at hl ⊢
  have hl : lv_has ls 4 [(0, .ref h0), (1, .int n), (2, .ref ou)] := hl
  refine lv_aload_n hx hb d_La_memory_0 rfl (lv_at hl 2 rfl) ?_
  refine lv_iconst (v := 0) hx hb d_La_memory_1 (by decide) ?_
  refine lv_aload_n hx hb d_La_memory_2 rfl (lv_at hl 0 rfl) ?_
  refine lv_iload_n hx hb d_La_memory_3 rfl (lv_at hl 1 rfl) ?_
  refine xx_callV (wc := [(h0, .inr (0, [.ref tp, .int tl, .ref ar, .int ac, .ref rd, .ref va, .ref ma, .ref cu, .ref sp, .int 0, .int rs]))]) (wr := [(ou, .inl (cJ, 1, .inr (.inl u)))]) (As := [.int n]) (rest := [.int 0, .ref ou]) ⟨hx, hb, hml, hown, hts⟩ xE_st hK hE hA (c_WR_memory_0 l htr G cB cI cJ cZ h0 tp ar rd va ma cu sp tl ac rs n _) (xw_V 1 hts m_1111 m_1112 m_1113 m_1 m_1114 (by decide +kernel) ⟨(Nat.le_of_ble_eq_true rfl), (Nat.le_of_ble_eq_true rfl)⟩) hP hD hS [0] [1] rfl rfl (by decide) (by decide) (by decide) 0 0 rfl rfl rfl rfl hl.1 rfl (Nat.le_of_ble_eq_true rfl) d_La_memory_4 ⟨(Nat.le_of_ble_eq_true rfl), (Nat.le_of_ble_eq_true rfl)⟩ (fun v9 w9 H9 l9 hp _ _ _ => absurd hp (by rintro ⟨_, ho, -⟩; cases ho)) (fun x9 w9 H locs hp hP hD hS => ?_)
  obtain ⟨q_1, ho, rfl⟩ := hp
  cases ho
  have hP : va_P G classes [(ou, .inl (cJ, 1, .inr (.inl u))), (h0, .inr (0, [.ref tp, .int tl, .ref ar, .int ac, .ref rd, .ref va, .ref ma, .ref cu, .ref sp, .int 0, .int rs])), (x9, .inr (16, []))] H := hP
  have hD : va_D A [(ou, .inl (cJ, 1, .inr (.inl u))), (h0, .inr (0, [.ref tp, .int tl, .ref ar, .int ac, .ref rd, .ref va, .ref ma, .ref cu, .ref sp, .int 0, .int rs])), (x9, .inr (16, []))] := hD
  refine xx_caught (C := R_xS) hno hown hK hP 2 16 rfl rfl ⟨[(0, 9, 12, 19)], 0, 9, 35, [], rfl, by decide, by decide, by decide, (hts _ m_914), (fun q h => by rw [List.mem_singleton] at h; subst h; exact ⟨by decide, by decide, by decide, "java/lang/IllegalArgumentException", (hts _ m_549), xE_nc hE (by decide)⟩)⟩ ?_
  refine lv_astore_n (lv' := [(3, .ref x9), (0, .ref h0), (1, .int n), (2, .ref ou)]) hx hb d_La_memory_15 rfl hl (by decide) rfl (fun ls hl => ?_)
  refine lv_iconst (v := 2) hx hb d_La_memory_16 (by decide) ?_
  have hP := hP.sub (ws' := [(h0, .inr (0, [.ref tp, .int tl, .ref ar, .int ac, .ref rd, .ref va, .ref ma, .ref cu, .ref sp, .int 0, .int rs])), (ou, .inl (cJ, 1, .inr (.inl u)))]) [1, 0] rfl
  have hD := hD.sub (ws' := [(h0, .inr (0, [.ref tp, .int tl, .ref ar, .int ac, .ref rd, .ref va, .ref ma, .ref cu, .ref sp, .int 0, .int rs])), (ou, .inl (cJ, 1, .inr (.inl u)))]) [1, 0] (by decide) rfl
  exact ex_W (fun _ h => ex_mq h) (W.iret (v := 2) hx hb hr (fun t ht hW => ⟨⟨_, ⟨rfl, rfl⟩, by rw [ht]; exact hP, hD⟩, hS.F ht⟩) hS.2.2 d_La_memory_17)
set_option maxHeartbeats 8000000 in
set_option maxRecDepth 100000 in
theorem c_La_count_0 (l : Launch) (htr : l.stackTraces = false) (G : va_G) (cB cI cJ cZ : ClassId) (h0 : Nat) (tp : Nat) (ar : Nat) (rd : Nat) (va : Nat) (ma : Nat) (cu : Nat) (sp : Nat) (tl : Int32) (ac : Int32) (rs : Int32) (ou : Nat) (u : Nat → Int64) (sz : Nat) : MetX l y_La_count (wxW y_La_count b_La_count 4 (some .int) [(0, 9, 12, 19)]) { frames := 1, cells := 0, slots := 0, locals := 21 } (XP G classes (xtys cB cI cJ cZ) xE [.ref h0, .int 0, .ref ou] [(h0, .inr (0, [.ref tp, .int tl, .ref ar, .int ac, .ref rd, .ref va, .ref ma, .ref cu, .ref sp, .int 0, .int rs])), (ou, .inl (cJ, 1, .inr (.inl u)))] sz) (XQ G classes (va_A [(h0, .inr (0, [.ref tp, .int tl, .ref ar, .int ac, .ref rd, .ref va, .ref ma, .ref cu, .ref sp, .int 0, .int rs])), (ou, .inl (cJ, 1, .inr (.inl u)))] sz) (fun o w1 => o = .returned (some (.int 0)) ∧ w1 = [(ou, .inl (cJ, 1, .inr (.inl (vp_updL u 0 tl.toInt64)))), (h0, .inr (0, [.ref tp, .int tl, .ref ar, .int ac, .ref rd, .ref va, .ref ma, .ref cu, .ref sp, .int 0, .int rs]))])) 0 0 (va_A [(h0, .inr (0, [.ref tp, .int tl, .ref ar, .int ac, .ref rd, .ref va, .ref ma, .ref cu, .ref sp, .int 0, .int rs])), (ou, .inl (cJ, 1, .inr (.inl u)))] sz) := by
  refine ex_ofWW (cc := b_La_count) (maxL := 4) (ret := (some .int)) (by decide) rfl ?_
  intro p e s m args below meth c s₁ B hml hno hv
  obtain ⟨rfl, hsz, hP, hK, hD0, hE⟩ := hv
  have hx := B.exec
  have hb := B.bytes
  have hr := B.returns
  have hts : ∀ w ∈ lw_good, w.before _ s = true := fun w h => atoms_spec (ws := wxW y_La_count b_La_count 4 (some .int) [(0, 9, 12, 19)]) B.pre w (List.mem_cons_of_mem _ h)
  have hown : s.vm.findClass R_La = some m.cls := findClass_of_methodNamed B.named
  have hlocks := B.notSynchronized
  have htr9 : e.platform.stackTraces = false := by rw [B.admits.platform]; exact htr
  subst hsz
  have hNS := xx_nostat hP
  have hD := hD0.self (sz := s.heap.size)
  generalize hAe : va_A [(h0, .inr (0, [.ref tp, .int tl, .ref ar, .int ac, .ref rd, .ref va, .ref ma, .ref cu, .ref sp, .int 0, .int rs])), (ou, .inl (cJ, 1, .inr (.inl u)))] s.heap.size = A at hD hE hNS ⊢
  have hA : ∀ q : Nat, s.heap.size ≤ q → A q := fun q h => by rw [← hAe]; exact Or.inr h
  have hS : va_S A s.heap s.heap [] := va_S.rf
  have hl := lv_entry ([.ref h0, .int 0, .ref ou]) (n := 4) (Nat.le_of_ble_eq_true rfl)
  rw [lg_entry_eq]
  generalize (lg_sl ([.ref h0, .int 0, .ref ou]) ++ List.replicate (4 - (lg_sl ([.ref h0, .int 0, .ref ou])).length) Slot.unset).toArray = ls at hl ⊢
  have hl : lv_has ls 4 [(0, .ref h0), (1, .int 0), (2, .ref ou)] := hl
  refine lv_aload_n hx hb d_La_count_0 rfl (lv_at hl 2 rfl) ?_
  refine lv_iconst (v := 0) hx hb d_La_count_1 (by decide) ?_
  refine lv_aload_n hx hb d_La_count_2 rfl (lv_at hl 0 rfl) ?_
  refine lv_iload_n hx hb d_La_count_3 rfl (lv_at hl 1 rfl) ?_
  refine xx_callV (wc := [(h0, .inr (0, [.ref tp, .int tl, .ref ar, .int ac, .ref rd, .ref va, .ref ma, .ref cu, .ref sp, .int 0, .int rs]))]) (wr := [(ou, .inl (cJ, 1, .inr (.inl u)))]) (As := [.int 0]) (rest := [.int 0, .ref ou]) ⟨hx, hb, hml, hown, hts⟩ xE_st hK hE hA (c_WR_count_0 l htr G cB cI cJ cZ h0 tp ar rd va ma cu sp tl ac rs _) (xw_V 1 hts m_1119 m_1120 m_1121 m_1 m_1122 (by decide +kernel) ⟨(Nat.le_of_ble_eq_true rfl), (Nat.le_of_ble_eq_true rfl)⟩) hP hD hS [0] [1] rfl rfl (by decide) (by decide) (by decide) 0 0 rfl rfl rfl rfl hl.1 rfl (Nat.le_of_ble_eq_true rfl) d_La_count_4 ⟨(Nat.le_of_ble_eq_true rfl), (Nat.le_of_ble_eq_true rfl)⟩ (fun v9 w9 H locs hp hP hD hS => ?_) (fun x9 w9 H9 l9 hp _ _ _ => absurd hp (by rintro ⟨ho, -⟩; cases ho))
  obtain ⟨ho, rfl⟩ := hp
  cases ho
  have hP : va_P G classes [(ou, .inl (cJ, 1, .inr (.inl u))), (h0, .inr (0, [.ref tp, .int tl, .ref ar, .int ac, .ref rd, .ref va, .ref ma, .ref cu, .ref sp, .int 0, .int rs]))] H := hP
  have hD : va_D A [(ou, .inl (cJ, 1, .inr (.inl u))), (h0, .inr (0, [.ref tp, .int tl, .ref ar, .int ac, .ref rd, .ref va, .ref ma, .ref cu, .ref sp, .int 0, .int rs]))] := hD
  refine lv_i2l hx hb d_La_count_7 rfl ?_
  refine va_last hx hb hK hP hD hS 0 2 rfl rfl (by unfold vp_in; decide) d_La_count_8 (fun H locs hP hD hS => ?_)
  have hP : va_P G classes [(ou, .inl (cJ, 1, .inr (.inl (vp_updL u 0 tl.toInt64)))), (h0, .inr (0, [.ref tp, .int tl, .ref ar, .int ac, .ref rd, .ref va, .ref ma, .ref cu, .ref sp, .int 0, .int rs]))] H := hP
  have hD : va_D A [(ou, .inl (cJ, 1, .inr (.inl (vp_updL u 0 tl.toInt64)))), (h0, .inr (0, [.ref tp, .int tl, .ref ar, .int ac, .ref rd, .ref va, .ref ma, .ref cu, .ref sp, .int 0, .int rs]))] := hD
  refine lv_goto (tgt := 15) hx hb d_La_count_9 (by decide) ?_
  refine lv_iconst (v := 0) hx hb d_La_count_15 (by decide) ?_
  exact ex_W (fun _ h => ex_mq h) (W.iret (v := 0) hx hb hr (fun t ht hW => ⟨⟨_, ⟨rfl, rfl⟩, by rw [ht]; exact hP, hD⟩, hS.F ht⟩) hS.2.2 d_La_count_16)
set_option maxHeartbeats 8000000 in
set_option maxRecDepth 100000 in
theorem c_La_count_1 (l : Launch) (htr : l.stackTraces = false) (G : va_G) (cB cI cJ cZ : ClassId) (h0 : Nat) (tp : Nat) (ar : Nat) (rd : Nat) (va : Nat) (ma : Nat) (cu : Nat) (sp : Nat) (tl : Int32) (ac : Int32) (rs : Int32) (ou : Nat) (u : Nat → Int64) (sz : Nat) : MetX l y_La_count (wxW y_La_count b_La_count 4 (some .int) [(0, 9, 12, 19)]) { frames := 1, cells := 0, slots := 0, locals := 21 } (XP G classes (xtys cB cI cJ cZ) xE [.ref h0, .int 1, .ref ou] [(h0, .inr (0, [.ref tp, .int tl, .ref ar, .int ac, .ref rd, .ref va, .ref ma, .ref cu, .ref sp, .int 0, .int rs])), (ou, .inl (cJ, 1, .inr (.inl u)))] sz) (XQ G classes (va_A [(h0, .inr (0, [.ref tp, .int tl, .ref ar, .int ac, .ref rd, .ref va, .ref ma, .ref cu, .ref sp, .int 0, .int rs])), (ou, .inl (cJ, 1, .inr (.inl u)))] sz) (fun o w1 => o = .returned (some (.int 0)) ∧ w1 = [(ou, .inl (cJ, 1, .inr (.inl (vp_updL u 0 rs.toInt64)))), (h0, .inr (0, [.ref tp, .int tl, .ref ar, .int ac, .ref rd, .ref va, .ref ma, .ref cu, .ref sp, .int 0, .int rs]))])) 0 0 (va_A [(h0, .inr (0, [.ref tp, .int tl, .ref ar, .int ac, .ref rd, .ref va, .ref ma, .ref cu, .ref sp, .int 0, .int rs])), (ou, .inl (cJ, 1, .inr (.inl u)))] sz) := by
  refine ex_ofWW (cc := b_La_count) (maxL := 4) (ret := (some .int)) (by decide) rfl ?_
  intro p e s m args below meth c s₁ B hml hno hv
  obtain ⟨rfl, hsz, hP, hK, hD0, hE⟩ := hv
  have hx := B.exec
  have hb := B.bytes
  have hr := B.returns
  have hts : ∀ w ∈ lw_good, w.before _ s = true := fun w h => atoms_spec (ws := wxW y_La_count b_La_count 4 (some .int) [(0, 9, 12, 19)]) B.pre w (List.mem_cons_of_mem _ h)
  have hown : s.vm.findClass R_La = some m.cls := findClass_of_methodNamed B.named
  have hlocks := B.notSynchronized
  have htr9 : e.platform.stackTraces = false := by rw [B.admits.platform]; exact htr
  subst hsz
  have hNS := xx_nostat hP
  have hD := hD0.self (sz := s.heap.size)
  generalize hAe : va_A [(h0, .inr (0, [.ref tp, .int tl, .ref ar, .int ac, .ref rd, .ref va, .ref ma, .ref cu, .ref sp, .int 0, .int rs])), (ou, .inl (cJ, 1, .inr (.inl u)))] s.heap.size = A at hD hE hNS ⊢
  have hA : ∀ q : Nat, s.heap.size ≤ q → A q := fun q h => by rw [← hAe]; exact Or.inr h
  have hS : va_S A s.heap s.heap [] := va_S.rf
  have hl := lv_entry ([.ref h0, .int 1, .ref ou]) (n := 4) (Nat.le_of_ble_eq_true rfl)
  rw [lg_entry_eq]
  generalize (lg_sl ([.ref h0, .int 1, .ref ou]) ++ List.replicate (4 - (lg_sl ([.ref h0, .int 1, .ref ou])).length) Slot.unset).toArray = ls at hl ⊢
  have hl : lv_has ls 4 [(0, .ref h0), (1, .int 1), (2, .ref ou)] := hl
  refine lv_aload_n hx hb d_La_count_0 rfl (lv_at hl 2 rfl) ?_
  refine lv_iconst (v := 0) hx hb d_La_count_1 (by decide) ?_
  refine lv_aload_n hx hb d_La_count_2 rfl (lv_at hl 0 rfl) ?_
  refine lv_iload_n hx hb d_La_count_3 rfl (lv_at hl 1 rfl) ?_
  refine xx_callV (wc := [(h0, .inr (0, [.ref tp, .int tl, .ref ar, .int ac, .ref rd, .ref va, .ref ma, .ref cu, .ref sp, .int 0, .int rs]))]) (wr := [(ou, .inl (cJ, 1, .inr (.inl u)))]) (As := [.int 1]) (rest := [.int 0, .ref ou]) ⟨hx, hb, hml, hown, hts⟩ xE_st hK hE hA (c_WR_count_1 l htr G cB cI cJ cZ h0 tp ar rd va ma cu sp tl ac rs _) (xw_V 1 hts m_1119 m_1120 m_1121 m_1 m_1122 (by decide +kernel) ⟨(Nat.le_of_ble_eq_true rfl), (Nat.le_of_ble_eq_true rfl)⟩) hP hD hS [0] [1] rfl rfl (by decide) (by decide) (by decide) 0 0 rfl rfl rfl rfl hl.1 rfl (Nat.le_of_ble_eq_true rfl) d_La_count_4 ⟨(Nat.le_of_ble_eq_true rfl), (Nat.le_of_ble_eq_true rfl)⟩ (fun v9 w9 H locs hp hP hD hS => ?_) (fun x9 w9 H9 l9 hp _ _ _ => absurd hp (by rintro ⟨ho, -⟩; cases ho))
  obtain ⟨ho, rfl⟩ := hp
  cases ho
  have hP : va_P G classes [(ou, .inl (cJ, 1, .inr (.inl u))), (h0, .inr (0, [.ref tp, .int tl, .ref ar, .int ac, .ref rd, .ref va, .ref ma, .ref cu, .ref sp, .int 0, .int rs]))] H := hP
  have hD : va_D A [(ou, .inl (cJ, 1, .inr (.inl u))), (h0, .inr (0, [.ref tp, .int tl, .ref ar, .int ac, .ref rd, .ref va, .ref ma, .ref cu, .ref sp, .int 0, .int rs]))] := hD
  refine lv_i2l hx hb d_La_count_7 rfl ?_
  refine va_last hx hb hK hP hD hS 0 2 rfl rfl (by unfold vp_in; decide) d_La_count_8 (fun H locs hP hD hS => ?_)
  have hP : va_P G classes [(ou, .inl (cJ, 1, .inr (.inl (vp_updL u 0 rs.toInt64)))), (h0, .inr (0, [.ref tp, .int tl, .ref ar, .int ac, .ref rd, .ref va, .ref ma, .ref cu, .ref sp, .int 0, .int rs]))] H := hP
  have hD : va_D A [(ou, .inl (cJ, 1, .inr (.inl (vp_updL u 0 rs.toInt64)))), (h0, .inr (0, [.ref tp, .int tl, .ref ar, .int ac, .ref rd, .ref va, .ref ma, .ref cu, .ref sp, .int 0, .int rs]))] := hD
  refine lv_goto (tgt := 15) hx hb d_La_count_9 (by decide) ?_
  refine lv_iconst (v := 0) hx hb d_La_count_15 (by decide) ?_
  exact ex_W (fun _ h => ex_mq h) (W.iret (v := 0) hx hb hr (fun t ht hW => ⟨⟨_, ⟨rfl, rfl⟩, by rw [ht]; exact hP, hD⟩, hS.F ht⟩) hS.2.2 d_La_count_16)
set_option maxHeartbeats 8000000 in
set_option maxRecDepth 100000 in
theorem c_La_count_2 (l : Launch) (htr : l.stackTraces = false) (G : va_G) (cB cI cJ cZ : ClassId) (h0 : Nat) (tp : Nat) (ar : Nat) (rd : Nat) (va : Nat) (ma : Nat) (cu : Nat) (sp : Nat) (tl : Int32) (ac : Int32) (rs : Int32) (ou : Nat) (u : Nat → Int64) (sz : Nat) : MetX l y_La_count (wxW y_La_count b_La_count 4 (some .int) [(0, 9, 12, 19)]) { frames := 1, cells := 0, slots := 0, locals := 21 } (XP G classes (xtys cB cI cJ cZ) xE [.ref h0, .int 2, .ref ou] [(h0, .inr (0, [.ref tp, .int tl, .ref ar, .int ac, .ref rd, .ref va, .ref ma, .ref cu, .ref sp, .int 0, .int rs])), (ou, .inl (cJ, 1, .inr (.inl u)))] sz) (XQ G classes (va_A [(h0, .inr (0, [.ref tp, .int tl, .ref ar, .int ac, .ref rd, .ref va, .ref ma, .ref cu, .ref sp, .int 0, .int rs])), (ou, .inl (cJ, 1, .inr (.inl u)))] sz) (fun o w1 => o = .returned (some (.int 0)) ∧ w1 = [(ou, .inl (cJ, 1, .inr (.inl (vp_updL u 0 ((-1 : Int32).toInt64))))), (h0, .inr (0, [.ref tp, .int tl, .ref ar, .int ac, .ref rd, .ref va, .ref ma, .ref cu, .ref sp, .int 0, .int rs]))])) 0 0 (va_A [(h0, .inr (0, [.ref tp, .int tl, .ref ar, .int ac, .ref rd, .ref va, .ref ma, .ref cu, .ref sp, .int 0, .int rs])), (ou, .inl (cJ, 1, .inr (.inl u)))] sz) := by
  refine ex_ofWW (cc := b_La_count) (maxL := 4) (ret := (some .int)) (by decide) rfl ?_
  intro p e s m args below meth c s₁ B hml hno hv
  obtain ⟨rfl, hsz, hP, hK, hD0, hE⟩ := hv
  have hx := B.exec
  have hb := B.bytes
  have hr := B.returns
  have hts : ∀ w ∈ lw_good, w.before _ s = true := fun w h => atoms_spec (ws := wxW y_La_count b_La_count 4 (some .int) [(0, 9, 12, 19)]) B.pre w (List.mem_cons_of_mem _ h)
  have hown : s.vm.findClass R_La = some m.cls := findClass_of_methodNamed B.named
  have hlocks := B.notSynchronized
  have htr9 : e.platform.stackTraces = false := by rw [B.admits.platform]; exact htr
  subst hsz
  have hNS := xx_nostat hP
  have hD := hD0.self (sz := s.heap.size)
  generalize hAe : va_A [(h0, .inr (0, [.ref tp, .int tl, .ref ar, .int ac, .ref rd, .ref va, .ref ma, .ref cu, .ref sp, .int 0, .int rs])), (ou, .inl (cJ, 1, .inr (.inl u)))] s.heap.size = A at hD hE hNS ⊢
  have hA : ∀ q : Nat, s.heap.size ≤ q → A q := fun q h => by rw [← hAe]; exact Or.inr h
  have hS : va_S A s.heap s.heap [] := va_S.rf
  have hl := lv_entry ([.ref h0, .int 2, .ref ou]) (n := 4) (Nat.le_of_ble_eq_true rfl)
  rw [lg_entry_eq]
  generalize (lg_sl ([.ref h0, .int 2, .ref ou]) ++ List.replicate (4 - (lg_sl ([.ref h0, .int 2, .ref ou])).length) Slot.unset).toArray = ls at hl ⊢
  have hl : lv_has ls 4 [(0, .ref h0), (1, .int 2), (2, .ref ou)] := hl
  refine lv_aload_n hx hb d_La_count_0 rfl (lv_at hl 2 rfl) ?_
  refine lv_iconst (v := 0) hx hb d_La_count_1 (by decide) ?_
  refine lv_aload_n hx hb d_La_count_2 rfl (lv_at hl 0 rfl) ?_
  refine lv_iload_n hx hb d_La_count_3 rfl (lv_at hl 1 rfl) ?_
  refine xx_callV (wc := [(h0, .inr (0, [.ref tp, .int tl, .ref ar, .int ac, .ref rd, .ref va, .ref ma, .ref cu, .ref sp, .int 0, .int rs]))]) (wr := [(ou, .inl (cJ, 1, .inr (.inl u)))]) (As := [.int 2]) (rest := [.int 0, .ref ou]) ⟨hx, hb, hml, hown, hts⟩ xE_st hK hE hA (c_WR_count_2 l htr G cB cI cJ cZ h0 tp ar rd va ma cu sp tl ac rs _) (xw_V 1 hts m_1119 m_1120 m_1121 m_1 m_1122 (by decide +kernel) ⟨(Nat.le_of_ble_eq_true rfl), (Nat.le_of_ble_eq_true rfl)⟩) hP hD hS [0] [1] rfl rfl (by decide) (by decide) (by decide) 0 0 rfl rfl rfl rfl hl.1 rfl (Nat.le_of_ble_eq_true rfl) d_La_count_4 ⟨(Nat.le_of_ble_eq_true rfl), (Nat.le_of_ble_eq_true rfl)⟩ (fun v9 w9 H locs hp hP hD hS => ?_) (fun x9 w9 H9 l9 hp _ _ _ => absurd hp (by rintro ⟨ho, -⟩; cases ho))
  obtain ⟨ho, rfl⟩ := hp
  cases ho
  have hP : va_P G classes [(ou, .inl (cJ, 1, .inr (.inl u))), (h0, .inr (0, [.ref tp, .int tl, .ref ar, .int ac, .ref rd, .ref va, .ref ma, .ref cu, .ref sp, .int 0, .int rs]))] H := hP
  have hD : va_D A [(ou, .inl (cJ, 1, .inr (.inl u))), (h0, .inr (0, [.ref tp, .int tl, .ref ar, .int ac, .ref rd, .ref va, .ref ma, .ref cu, .ref sp, .int 0, .int rs]))] := hD
  refine lv_i2l hx hb d_La_count_7 rfl ?_
  refine va_last hx hb hK hP hD hS 0 2 rfl rfl (by unfold vp_in; decide) d_La_count_8 (fun H locs hP hD hS => ?_)
  have hP : va_P G classes [(ou, .inl (cJ, 1, .inr (.inl (vp_updL u 0 ((-1 : Int32).toInt64))))), (h0, .inr (0, [.ref tp, .int tl, .ref ar, .int ac, .ref rd, .ref va, .ref ma, .ref cu, .ref sp, .int 0, .int rs]))] H := hP
  have hD : va_D A [(ou, .inl (cJ, 1, .inr (.inl (vp_updL u 0 ((-1 : Int32).toInt64))))), (h0, .inr (0, [.ref tp, .int tl, .ref ar, .int ac, .ref rd, .ref va, .ref ma, .ref cu, .ref sp, .int 0, .int rs]))] := hD
  refine lv_goto (tgt := 15) hx hb d_La_count_9 (by decide) ?_
  refine lv_iconst (v := 0) hx hb d_La_count_15 (by decide) ?_
  exact ex_W (fun _ h => ex_mq h) (W.iret (v := 0) hx hb hr (fun t ht hW => ⟨⟨_, ⟨rfl, rfl⟩, by rw [ht]; exact hP, hD⟩, hS.F ht⟩) hS.2.2 d_La_count_16)
set_option maxHeartbeats 8000000 in
set_option maxRecDepth 100000 in
theorem c_La_count_3 (l : Launch) (htr : l.stackTraces = false) (G : va_G) (cB cI cJ cZ : ClassId) (h0 : Nat) (tp : Nat) (ar : Nat) (rd : Nat) (va : Nat) (ma : Nat) (cu : Nat) (sp : Nat) (tl : Int32) (ac : Int32) (rs : Int32) (ou : Nat) (u : Nat → Int64) (sz : Nat) : MetX l y_La_count (wxW y_La_count b_La_count 4 (some .int) [(0, 9, 12, 19)]) { frames := 1, cells := 0, slots := 0, locals := 21 } (XP G classes (xtys cB cI cJ cZ) xE [.ref h0, .int 3, .ref ou] [(h0, .inr (0, [.ref tp, .int tl, .ref ar, .int ac, .ref rd, .ref va, .ref ma, .ref cu, .ref sp, .int 0, .int rs])), (ou, .inl (cJ, 1, .inr (.inl u)))] sz) (XQ G classes (va_A [(h0, .inr (0, [.ref tp, .int tl, .ref ar, .int ac, .ref rd, .ref va, .ref ma, .ref cu, .ref sp, .int 0, .int rs])), (ou, .inl (cJ, 1, .inr (.inl u)))] sz) (fun o w1 => o = .returned (some (.int 0)) ∧ w1 = [(ou, .inl (cJ, 1, .inr (.inl (vp_updL u 0 ((-1 : Int32).toInt64))))), (h0, .inr (0, [.ref tp, .int tl, .ref ar, .int ac, .ref rd, .ref va, .ref ma, .ref cu, .ref sp, .int 0, .int rs]))])) 0 0 (va_A [(h0, .inr (0, [.ref tp, .int tl, .ref ar, .int ac, .ref rd, .ref va, .ref ma, .ref cu, .ref sp, .int 0, .int rs])), (ou, .inl (cJ, 1, .inr (.inl u)))] sz) := by
  refine ex_ofWW (cc := b_La_count) (maxL := 4) (ret := (some .int)) (by decide) rfl ?_
  intro p e s m args below meth c s₁ B hml hno hv
  obtain ⟨rfl, hsz, hP, hK, hD0, hE⟩ := hv
  have hx := B.exec
  have hb := B.bytes
  have hr := B.returns
  have hts : ∀ w ∈ lw_good, w.before _ s = true := fun w h => atoms_spec (ws := wxW y_La_count b_La_count 4 (some .int) [(0, 9, 12, 19)]) B.pre w (List.mem_cons_of_mem _ h)
  have hown : s.vm.findClass R_La = some m.cls := findClass_of_methodNamed B.named
  have hlocks := B.notSynchronized
  have htr9 : e.platform.stackTraces = false := by rw [B.admits.platform]; exact htr
  subst hsz
  have hNS := xx_nostat hP
  have hD := hD0.self (sz := s.heap.size)
  generalize hAe : va_A [(h0, .inr (0, [.ref tp, .int tl, .ref ar, .int ac, .ref rd, .ref va, .ref ma, .ref cu, .ref sp, .int 0, .int rs])), (ou, .inl (cJ, 1, .inr (.inl u)))] s.heap.size = A at hD hE hNS ⊢
  have hA : ∀ q : Nat, s.heap.size ≤ q → A q := fun q h => by rw [← hAe]; exact Or.inr h
  have hS : va_S A s.heap s.heap [] := va_S.rf
  have hl := lv_entry ([.ref h0, .int 3, .ref ou]) (n := 4) (Nat.le_of_ble_eq_true rfl)
  rw [lg_entry_eq]
  generalize (lg_sl ([.ref h0, .int 3, .ref ou]) ++ List.replicate (4 - (lg_sl ([.ref h0, .int 3, .ref ou])).length) Slot.unset).toArray = ls at hl ⊢
  have hl : lv_has ls 4 [(0, .ref h0), (1, .int 3), (2, .ref ou)] := hl
  refine lv_aload_n hx hb d_La_count_0 rfl (lv_at hl 2 rfl) ?_
  refine lv_iconst (v := 0) hx hb d_La_count_1 (by decide) ?_
  refine lv_aload_n hx hb d_La_count_2 rfl (lv_at hl 0 rfl) ?_
  refine lv_iload_n hx hb d_La_count_3 rfl (lv_at hl 1 rfl) ?_
  refine xx_callV (wc := [(h0, .inr (0, [.ref tp, .int tl, .ref ar, .int ac, .ref rd, .ref va, .ref ma, .ref cu, .ref sp, .int 0, .int rs]))]) (wr := [(ou, .inl (cJ, 1, .inr (.inl u)))]) (As := [.int 3]) (rest := [.int 0, .ref ou]) ⟨hx, hb, hml, hown, hts⟩ xE_st hK hE hA (c_WR_count_3 l htr G cB cI cJ cZ h0 tp ar rd va ma cu sp tl ac rs _) (xw_V 1 hts m_1119 m_1120 m_1121 m_1 m_1122 (by decide +kernel) ⟨(Nat.le_of_ble_eq_true rfl), (Nat.le_of_ble_eq_true rfl)⟩) hP hD hS [0] [1] rfl rfl (by decide) (by decide) (by decide) 0 0 rfl rfl rfl rfl hl.1 rfl (Nat.le_of_ble_eq_true rfl) d_La_count_4 ⟨(Nat.le_of_ble_eq_true rfl), (Nat.le_of_ble_eq_true rfl)⟩ (fun v9 w9 H locs hp hP hD hS => ?_) (fun x9 w9 H9 l9 hp _ _ _ => absurd hp (by rintro ⟨ho, -⟩; cases ho))
  obtain ⟨ho, rfl⟩ := hp
  cases ho
  have hP : va_P G classes [(ou, .inl (cJ, 1, .inr (.inl u))), (h0, .inr (0, [.ref tp, .int tl, .ref ar, .int ac, .ref rd, .ref va, .ref ma, .ref cu, .ref sp, .int 0, .int rs]))] H := hP
  have hD : va_D A [(ou, .inl (cJ, 1, .inr (.inl u))), (h0, .inr (0, [.ref tp, .int tl, .ref ar, .int ac, .ref rd, .ref va, .ref ma, .ref cu, .ref sp, .int 0, .int rs]))] := hD
  refine lv_i2l hx hb d_La_count_7 rfl ?_
  refine va_last hx hb hK hP hD hS 0 2 rfl rfl (by unfold vp_in; decide) d_La_count_8 (fun H locs hP hD hS => ?_)
  have hP : va_P G classes [(ou, .inl (cJ, 1, .inr (.inl (vp_updL u 0 ((-1 : Int32).toInt64))))), (h0, .inr (0, [.ref tp, .int tl, .ref ar, .int ac, .ref rd, .ref va, .ref ma, .ref cu, .ref sp, .int 0, .int rs]))] H := hP
  have hD : va_D A [(ou, .inl (cJ, 1, .inr (.inl (vp_updL u 0 ((-1 : Int32).toInt64))))), (h0, .inr (0, [.ref tp, .int tl, .ref ar, .int ac, .ref rd, .ref va, .ref ma, .ref cu, .ref sp, .int 0, .int rs]))] := hD
  refine lv_goto (tgt := 15) hx hb d_La_count_9 (by decide) ?_
  refine lv_iconst (v := 0) hx hb d_La_count_15 (by decide) ?_
  exact ex_W (fun _ h => ex_mq h) (W.iret (v := 0) hx hb hr (fun t ht hW => ⟨⟨_, ⟨rfl, rfl⟩, by rw [ht]; exact hP, hD⟩, hS.F ht⟩) hS.2.2 d_La_count_16)
set_option maxHeartbeats 8000000 in
set_option maxRecDepth 100000 in
theorem c_La_count_4 (l : Launch) (htr : l.stackTraces = false) (G : va_G) (cB cI cJ cZ : ClassId) (h0 : Nat) (tp : Nat) (ar : Nat) (rd : Nat) (va : Nat) (ma : Nat) (cu : Nat) (sp : Nat) (tl : Int32) (ac : Int32) (rs : Int32) (ou : Nat) (u : Nat → Int64) (sz : Nat) : MetX l y_La_count (wxW y_La_count b_La_count 4 (some .int) [(0, 9, 12, 19)]) { frames := 1, cells := 0, slots := 0, locals := 21 } (XP G classes (xtys cB cI cJ cZ) xE [.ref h0, .int 4, .ref ou] [(h0, .inr (0, [.ref tp, .int tl, .ref ar, .int ac, .ref rd, .ref va, .ref ma, .ref cu, .ref sp, .int 0, .int rs])), (ou, .inl (cJ, 1, .inr (.inl u)))] sz) (XQ G classes (va_A [(h0, .inr (0, [.ref tp, .int tl, .ref ar, .int ac, .ref rd, .ref va, .ref ma, .ref cu, .ref sp, .int 0, .int rs])), (ou, .inl (cJ, 1, .inr (.inl u)))] sz) (fun o w1 => o = .returned (some (.int 0)) ∧ w1 = [(ou, .inl (cJ, 1, .inr (.inl (vp_updL u 0 ((-1 : Int32).toInt64))))), (h0, .inr (0, [.ref tp, .int tl, .ref ar, .int ac, .ref rd, .ref va, .ref ma, .ref cu, .ref sp, .int 0, .int rs]))])) 0 0 (va_A [(h0, .inr (0, [.ref tp, .int tl, .ref ar, .int ac, .ref rd, .ref va, .ref ma, .ref cu, .ref sp, .int 0, .int rs])), (ou, .inl (cJ, 1, .inr (.inl u)))] sz) := by
  refine ex_ofWW (cc := b_La_count) (maxL := 4) (ret := (some .int)) (by decide) rfl ?_
  intro p e s m args below meth c s₁ B hml hno hv
  obtain ⟨rfl, hsz, hP, hK, hD0, hE⟩ := hv
  have hx := B.exec
  have hb := B.bytes
  have hr := B.returns
  have hts : ∀ w ∈ lw_good, w.before _ s = true := fun w h => atoms_spec (ws := wxW y_La_count b_La_count 4 (some .int) [(0, 9, 12, 19)]) B.pre w (List.mem_cons_of_mem _ h)
  have hown : s.vm.findClass R_La = some m.cls := findClass_of_methodNamed B.named
  have hlocks := B.notSynchronized
  have htr9 : e.platform.stackTraces = false := by rw [B.admits.platform]; exact htr
  subst hsz
  have hNS := xx_nostat hP
  have hD := hD0.self (sz := s.heap.size)
  generalize hAe : va_A [(h0, .inr (0, [.ref tp, .int tl, .ref ar, .int ac, .ref rd, .ref va, .ref ma, .ref cu, .ref sp, .int 0, .int rs])), (ou, .inl (cJ, 1, .inr (.inl u)))] s.heap.size = A at hD hE hNS ⊢
  have hA : ∀ q : Nat, s.heap.size ≤ q → A q := fun q h => by rw [← hAe]; exact Or.inr h
  have hS : va_S A s.heap s.heap [] := va_S.rf
  have hl := lv_entry ([.ref h0, .int 4, .ref ou]) (n := 4) (Nat.le_of_ble_eq_true rfl)
  rw [lg_entry_eq]
  generalize (lg_sl ([.ref h0, .int 4, .ref ou]) ++ List.replicate (4 - (lg_sl ([.ref h0, .int 4, .ref ou])).length) Slot.unset).toArray = ls at hl ⊢
  have hl : lv_has ls 4 [(0, .ref h0), (1, .int 4), (2, .ref ou)] := hl
  refine lv_aload_n hx hb d_La_count_0 rfl (lv_at hl 2 rfl) ?_
  refine lv_iconst (v := 0) hx hb d_La_count_1 (by decide) ?_
  refine lv_aload_n hx hb d_La_count_2 rfl (lv_at hl 0 rfl) ?_
  refine lv_iload_n hx hb d_La_count_3 rfl (lv_at hl 1 rfl) ?_
  refine xx_callV (wc := [(h0, .inr (0, [.ref tp, .int tl, .ref ar, .int ac, .ref rd, .ref va, .ref ma, .ref cu, .ref sp, .int 0, .int rs]))]) (wr := [(ou, .inl (cJ, 1, .inr (.inl u)))]) (As := [.int 4]) (rest := [.int 0, .ref ou]) ⟨hx, hb, hml, hown, hts⟩ xE_st hK hE hA (c_WR_count_4 l htr G cB cI cJ cZ h0 tp ar rd va ma cu sp tl ac rs _) (xw_V 1 hts m_1119 m_1120 m_1121 m_1 m_1122 (by decide +kernel) ⟨(Nat.le_of_ble_eq_true rfl), (Nat.le_of_ble_eq_true rfl)⟩) hP hD hS [0] [1] rfl rfl (by decide) (by decide) (by decide) 0 0 rfl rfl rfl rfl hl.1 rfl (Nat.le_of_ble_eq_true rfl) d_La_count_4 ⟨(Nat.le_of_ble_eq_true rfl), (Nat.le_of_ble_eq_true rfl)⟩ (fun v9 w9 H locs hp hP hD hS => ?_) (fun x9 w9 H9 l9 hp _ _ _ => absurd hp (by rintro ⟨ho, -⟩; cases ho))
  obtain ⟨ho, rfl⟩ := hp
  cases ho
  have hP : va_P G classes [(ou, .inl (cJ, 1, .inr (.inl u))), (h0, .inr (0, [.ref tp, .int tl, .ref ar, .int ac, .ref rd, .ref va, .ref ma, .ref cu, .ref sp, .int 0, .int rs]))] H := hP
  have hD : va_D A [(ou, .inl (cJ, 1, .inr (.inl u))), (h0, .inr (0, [.ref tp, .int tl, .ref ar, .int ac, .ref rd, .ref va, .ref ma, .ref cu, .ref sp, .int 0, .int rs]))] := hD
  refine lv_i2l hx hb d_La_count_7 rfl ?_
  refine va_last hx hb hK hP hD hS 0 2 rfl rfl (by unfold vp_in; decide) d_La_count_8 (fun H locs hP hD hS => ?_)
  have hP : va_P G classes [(ou, .inl (cJ, 1, .inr (.inl (vp_updL u 0 ((-1 : Int32).toInt64))))), (h0, .inr (0, [.ref tp, .int tl, .ref ar, .int ac, .ref rd, .ref va, .ref ma, .ref cu, .ref sp, .int 0, .int rs]))] H := hP
  have hD : va_D A [(ou, .inl (cJ, 1, .inr (.inl (vp_updL u 0 ((-1 : Int32).toInt64))))), (h0, .inr (0, [.ref tp, .int tl, .ref ar, .int ac, .ref rd, .ref va, .ref ma, .ref cu, .ref sp, .int 0, .int rs]))] := hD
  refine lv_goto (tgt := 15) hx hb d_La_count_9 (by decide) ?_
  refine lv_iconst (v := 0) hx hb d_La_count_15 (by decide) ?_
  exact ex_W (fun _ h => ex_mq h) (W.iret (v := 0) hx hb hr (fun t ht hW => ⟨⟨_, ⟨rfl, rfl⟩, by rw [ht]; exact hP, hD⟩, hS.F ht⟩) hS.2.2 d_La_count_16)
set_option maxHeartbeats 8000000 in
set_option maxRecDepth 100000 in
theorem c_La_count_5 (l : Launch) (htr : l.stackTraces = false) (G : va_G) (cB cI cJ cZ : ClassId) (h0 : Nat) (tp : Nat) (ar : Nat) (rd : Nat) (va : Nat) (ma : Nat) (cu : Nat) (sp : Nat) (tl : Int32) (ac : Int32) (rs : Int32) (mb : Nat) (mg : Nat) (mk : Nat) (mf : Nat) (mv : Nat) (mr : Nat) (m_written : Int32) (m_pages : Int32) (m_steps : Int32) (m_reason : Int32) (m_next : Int32) (m_height : Int32) (m_depth : Int32) (m_variables : Int32) (m_values : Int32) (ld : Int32) (ou : Nat) (u : Nat → Int64) (sz : Nat) : MetX l y_La_count (wxW y_La_count b_La_count 4 (some .int) [(0, 9, 12, 19)]) { frames := 1, cells := 0, slots := 0, locals := 21 } (XP G classes (xtys cB cI cJ cZ) xE [.ref h0, .int 5, .ref ou] [(h0, .inr (0, [.ref tp, .int tl, .ref ar, .int ac, .ref rd, .ref va, .ref ma, .ref cu, .ref sp, .int ld, .int rs])), (ma, .inr (6, [.ref mb, .int m_written, .int m_pages, .ref mg, .int m_steps, .null, .null, .int m_reason, .int m_next, .ref mk, .int m_height, .ref mf, .ref mv, .ref mr, .int m_depth, .int m_variables, .int m_values])), (ou, .inl (cJ, 1, .inr (.inl u)))] sz) (XQ G classes (va_A [(h0, .inr (0, [.ref tp, .int tl, .ref ar, .int ac, .ref rd, .ref va, .ref ma, .ref cu, .ref sp, .int ld, .int rs])), (ma, .inr (6, [.ref mb, .int m_written, .int m_pages, .ref mg, .int m_steps, .null, .null, .int m_reason, .int m_next, .ref mk, .int m_height, .ref mf, .ref mv, .ref mr, .int m_depth, .int m_variables, .int m_values])), (ou, .inl (cJ, 1, .inr (.inl u)))] sz) (fun o w1 => o = .returned (some (.int 0)) ∧ w1 = [(ou, .inl (cJ, 1, .inr (.inl (vp_updL u 0 m_steps.toInt64)))), (h0, .inr (0, [.ref tp, .int tl, .ref ar, .int ac, .ref rd, .ref va, .ref ma, .ref cu, .ref sp, .int ld, .int rs])), (ma, .inr (6, [.ref mb, .int m_written, .int m_pages, .ref mg, .int m_steps, .null, .null, .int m_reason, .int m_next, .ref mk, .int m_height, .ref mf, .ref mv, .ref mr, .int m_depth, .int m_variables, .int m_values]))])) 0 0 (va_A [(h0, .inr (0, [.ref tp, .int tl, .ref ar, .int ac, .ref rd, .ref va, .ref ma, .ref cu, .ref sp, .int ld, .int rs])), (ma, .inr (6, [.ref mb, .int m_written, .int m_pages, .ref mg, .int m_steps, .null, .null, .int m_reason, .int m_next, .ref mk, .int m_height, .ref mf, .ref mv, .ref mr, .int m_depth, .int m_variables, .int m_values])), (ou, .inl (cJ, 1, .inr (.inl u)))] sz) := by
  refine ex_ofWW (cc := b_La_count) (maxL := 4) (ret := (some .int)) (by decide) rfl ?_
  intro p e s m args below meth c s₁ B hml hno hv
  obtain ⟨rfl, hsz, hP, hK, hD0, hE⟩ := hv
  have hx := B.exec
  have hb := B.bytes
  have hr := B.returns
  have hts : ∀ w ∈ lw_good, w.before _ s = true := fun w h => atoms_spec (ws := wxW y_La_count b_La_count 4 (some .int) [(0, 9, 12, 19)]) B.pre w (List.mem_cons_of_mem _ h)
  have hown : s.vm.findClass R_La = some m.cls := findClass_of_methodNamed B.named
  have hlocks := B.notSynchronized
  have htr9 : e.platform.stackTraces = false := by rw [B.admits.platform]; exact htr
  subst hsz
  have hNS := xx_nostat hP
  have hD := hD0.self (sz := s.heap.size)
  generalize hAe : va_A [(h0, .inr (0, [.ref tp, .int tl, .ref ar, .int ac, .ref rd, .ref va, .ref ma, .ref cu, .ref sp, .int ld, .int rs])), (ma, .inr (6, [.ref mb, .int m_written, .int m_pages, .ref mg, .int m_steps, .null, .null, .int m_reason, .int m_next, .ref mk, .int m_height, .ref mf, .ref mv, .ref mr, .int m_depth, .int m_variables, .int m_values])), (ou, .inl (cJ, 1, .inr (.inl u)))] s.heap.size = A at hD hE hNS ⊢
  have hA : ∀ q : Nat, s.heap.size ≤ q → A q := fun q h => by rw [← hAe]; exact Or.inr h
  have hS : va_S A s.heap s.heap [] := va_S.rf
  have hl := lv_entry ([.ref h0, .int 5, .ref ou]) (n := 4) (Nat.le_of_ble_eq_true rfl)
  rw [lg_entry_eq]
  generalize (lg_sl ([.ref h0, .int 5, .ref ou]) ++ List.replicate (4 - (lg_sl ([.ref h0, .int 5, .ref ou])).length) Slot.unset).toArray = ls at hl ⊢
  have hl : lv_has ls 4 [(0, .ref h0), (1, .int 5), (2, .ref ou)] := hl
  refine lv_aload_n hx hb d_La_count_0 rfl (lv_at hl 2 rfl) ?_
  refine lv_iconst (v := 0) hx hb d_La_count_1 (by decide) ?_
  refine lv_aload_n hx hb d_La_count_2 rfl (lv_at hl 0 rfl) ?_
  refine lv_iload_n hx hb d_La_count_3 rfl (lv_at hl 1 rfl) ?_
  refine xx_callV (wc := [(h0, .inr (0, [.ref tp, .int tl, .ref ar, .int ac, .ref rd, .ref va, .ref ma, .ref cu, .ref sp, .int ld, .int rs])), (ma, .inr (6, [.ref mb, .int m_written, .int m_pages, .ref mg, .int m_steps, .null, .null, .int m_reason, .int m_next, .ref mk, .int m_height, .ref mf, .ref mv, .ref mr, .int m_depth, .int m_variables, .int m_values]))]) (wr := [(ou, .inl (cJ, 1, .inr (.inl u)))]) (As := [.int 5]) (rest := [.int 0, .ref ou]) ⟨hx, hb, hml, hown, hts⟩ xE_st hK hE hA (c_WR_count_5 l htr G cB cI cJ cZ h0 tp ar rd va ma cu sp tl ac rs mb mg mk mf mv mr m_written m_pages m_steps m_reason m_next m_height m_depth m_variables m_values ld _) (xw_V 1 hts m_1119 m_1120 m_1121 m_1 m_1122 (by decide +kernel) ⟨(Nat.le_of_ble_eq_true rfl), (Nat.le_of_ble_eq_true rfl)⟩) hP hD hS [0, 1] [2] rfl rfl (by decide) (by decide) (by decide) 0 0 rfl rfl rfl rfl hl.1 rfl (Nat.le_of_ble_eq_true rfl) d_La_count_4 ⟨(Nat.le_of_ble_eq_true rfl), (Nat.le_of_ble_eq_true rfl)⟩ (fun v9 w9 H locs hp hP hD hS => ?_) (fun x9 w9 H9 l9 hp _ _ _ => absurd hp (by rintro ⟨ho, -⟩; cases ho))
  obtain ⟨ho, rfl⟩ := hp
  cases ho
  have hP : va_P G classes [(ou, .inl (cJ, 1, .inr (.inl u))), (h0, .inr (0, [.ref tp, .int tl, .ref ar, .int ac, .ref rd, .ref va, .ref ma, .ref cu, .ref sp, .int ld, .int rs])), (ma, .inr (6, [.ref mb, .int m_written, .int m_pages, .ref mg, .int m_steps, .null, .null, .int m_reason, .int m_next, .ref mk, .int m_height, .ref mf, .ref mv, .ref mr, .int m_depth, .int m_variables, .int m_values]))] H := hP
  have hD : va_D A [(ou, .inl (cJ, 1, .inr (.inl u))), (h0, .inr (0, [.ref tp, .int tl, .ref ar, .int ac, .ref rd, .ref va, .ref ma, .ref cu, .ref sp, .int ld, .int rs])), (ma, .inr (6, [.ref mb, .int m_written, .int m_pages, .ref mg, .int m_steps, .null, .null, .int m_reason, .int m_next, .ref mk, .int m_height, .ref mf, .ref mv, .ref mr, .int m_depth, .int m_variables, .int m_values]))] := hD
  refine lv_i2l hx hb d_La_count_7 rfl ?_
  refine va_last hx hb hK hP hD hS 0 2 rfl rfl (by unfold vp_in; decide) d_La_count_8 (fun H locs hP hD hS => ?_)
  have hP : va_P G classes [(ou, .inl (cJ, 1, .inr (.inl (vp_updL u 0 m_steps.toInt64)))), (h0, .inr (0, [.ref tp, .int tl, .ref ar, .int ac, .ref rd, .ref va, .ref ma, .ref cu, .ref sp, .int ld, .int rs])), (ma, .inr (6, [.ref mb, .int m_written, .int m_pages, .ref mg, .int m_steps, .null, .null, .int m_reason, .int m_next, .ref mk, .int m_height, .ref mf, .ref mv, .ref mr, .int m_depth, .int m_variables, .int m_values]))] H := hP
  have hD : va_D A [(ou, .inl (cJ, 1, .inr (.inl (vp_updL u 0 m_steps.toInt64)))), (h0, .inr (0, [.ref tp, .int tl, .ref ar, .int ac, .ref rd, .ref va, .ref ma, .ref cu, .ref sp, .int ld, .int rs])), (ma, .inr (6, [.ref mb, .int m_written, .int m_pages, .ref mg, .int m_steps, .null, .null, .int m_reason, .int m_next, .ref mk, .int m_height, .ref mf, .ref mv, .ref mr, .int m_depth, .int m_variables, .int m_values]))] := hD
  refine lv_goto (tgt := 15) hx hb d_La_count_9 (by decide) ?_
  refine lv_iconst (v := 0) hx hb d_La_count_15 (by decide) ?_
  exact ex_W (fun _ h => ex_mq h) (W.iret (v := 0) hx hb hr (fun t ht hW => ⟨⟨_, ⟨rfl, rfl⟩, by rw [ht]; exact hP, hD⟩, hS.F ht⟩) hS.2.2 d_La_count_16)
set_option maxHeartbeats 8000000 in
set_option maxRecDepth 100000 in
theorem c_La_count_6 (l : Launch) (htr : l.stackTraces = false) (G : va_G) (cB cI cJ cZ : ClassId) (h0 : Nat) (tp : Nat) (ar : Nat) (rd : Nat) (va : Nat) (ma : Nat) (cu : Nat) (sp : Nat) (tl : Int32) (ac : Int32) (rs : Int32) (ld : Int32) (ou : Nat) (u : Nat → Int64) (sz : Nat) : MetX l y_La_count (wxW y_La_count b_La_count 4 (some .int) [(0, 9, 12, 19)]) { frames := 1, cells := 0, slots := 0, locals := 21 } (XP G classes (xtys cB cI cJ cZ) xE [.ref h0, .int 6, .ref ou] [(h0, .inr (0, [.ref tp, .int tl, .ref ar, .int ac, .ref rd, .ref va, .ref ma, .ref cu, .ref sp, .int ld, .int rs])), (ou, .inl (cJ, 1, .inr (.inl u)))] sz) (XQ G classes (va_A [(h0, .inr (0, [.ref tp, .int tl, .ref ar, .int ac, .ref rd, .ref va, .ref ma, .ref cu, .ref sp, .int ld, .int rs])), (ou, .inl (cJ, 1, .inr (.inl u)))] sz) (fun o w1 => o = .returned (some (.int 0)) ∧ w1 = [(ou, .inl (cJ, 1, .inr (.inl (vp_updL u 0 ac.toInt64)))), (h0, .inr (0, [.ref tp, .int tl, .ref ar, .int ac, .ref rd, .ref va, .ref ma, .ref cu, .ref sp, .int ld, .int rs]))])) 0 0 (va_A [(h0, .inr (0, [.ref tp, .int tl, .ref ar, .int ac, .ref rd, .ref va, .ref ma, .ref cu, .ref sp, .int ld, .int rs])), (ou, .inl (cJ, 1, .inr (.inl u)))] sz) := by
  refine ex_ofWW (cc := b_La_count) (maxL := 4) (ret := (some .int)) (by decide) rfl ?_
  intro p e s m args below meth c s₁ B hml hno hv
  obtain ⟨rfl, hsz, hP, hK, hD0, hE⟩ := hv
  have hx := B.exec
  have hb := B.bytes
  have hr := B.returns
  have hts : ∀ w ∈ lw_good, w.before _ s = true := fun w h => atoms_spec (ws := wxW y_La_count b_La_count 4 (some .int) [(0, 9, 12, 19)]) B.pre w (List.mem_cons_of_mem _ h)
  have hown : s.vm.findClass R_La = some m.cls := findClass_of_methodNamed B.named
  have hlocks := B.notSynchronized
  have htr9 : e.platform.stackTraces = false := by rw [B.admits.platform]; exact htr
  subst hsz
  have hNS := xx_nostat hP
  have hD := hD0.self (sz := s.heap.size)
  generalize hAe : va_A [(h0, .inr (0, [.ref tp, .int tl, .ref ar, .int ac, .ref rd, .ref va, .ref ma, .ref cu, .ref sp, .int ld, .int rs])), (ou, .inl (cJ, 1, .inr (.inl u)))] s.heap.size = A at hD hE hNS ⊢
  have hA : ∀ q : Nat, s.heap.size ≤ q → A q := fun q h => by rw [← hAe]; exact Or.inr h
  have hS : va_S A s.heap s.heap [] := va_S.rf
  have hl := lv_entry ([.ref h0, .int 6, .ref ou]) (n := 4) (Nat.le_of_ble_eq_true rfl)
  rw [lg_entry_eq]
  generalize (lg_sl ([.ref h0, .int 6, .ref ou]) ++ List.replicate (4 - (lg_sl ([.ref h0, .int 6, .ref ou])).length) Slot.unset).toArray = ls at hl ⊢
  have hl : lv_has ls 4 [(0, .ref h0), (1, .int 6), (2, .ref ou)] := hl
  refine lv_aload_n hx hb d_La_count_0 rfl (lv_at hl 2 rfl) ?_
  refine lv_iconst (v := 0) hx hb d_La_count_1 (by decide) ?_
  refine lv_aload_n hx hb d_La_count_2 rfl (lv_at hl 0 rfl) ?_
  refine lv_iload_n hx hb d_La_count_3 rfl (lv_at hl 1 rfl) ?_
  refine xx_callV (wc := [(h0, .inr (0, [.ref tp, .int tl, .ref ar, .int ac, .ref rd, .ref va, .ref ma, .ref cu, .ref sp, .int ld, .int rs]))]) (wr := [(ou, .inl (cJ, 1, .inr (.inl u)))]) (As := [.int 6]) (rest := [.int 0, .ref ou]) ⟨hx, hb, hml, hown, hts⟩ xE_st hK hE hA (c_WR_count_6 l htr G cB cI cJ cZ h0 tp ar rd va ma cu sp tl ac rs ld _) (xw_V 1 hts m_1119 m_1120 m_1121 m_1 m_1122 (by decide +kernel) ⟨(Nat.le_of_ble_eq_true rfl), (Nat.le_of_ble_eq_true rfl)⟩) hP hD hS [0] [1] rfl rfl (by decide) (by decide) (by decide) 0 0 rfl rfl rfl rfl hl.1 rfl (Nat.le_of_ble_eq_true rfl) d_La_count_4 ⟨(Nat.le_of_ble_eq_true rfl), (Nat.le_of_ble_eq_true rfl)⟩ (fun v9 w9 H locs hp hP hD hS => ?_) (fun x9 w9 H9 l9 hp _ _ _ => absurd hp (by rintro ⟨ho, -⟩; cases ho))
  obtain ⟨ho, rfl⟩ := hp
  cases ho
  have hP : va_P G classes [(ou, .inl (cJ, 1, .inr (.inl u))), (h0, .inr (0, [.ref tp, .int tl, .ref ar, .int ac, .ref rd, .ref va, .ref ma, .ref cu, .ref sp, .int ld, .int rs]))] H := hP
  have hD : va_D A [(ou, .inl (cJ, 1, .inr (.inl u))), (h0, .inr (0, [.ref tp, .int tl, .ref ar, .int ac, .ref rd, .ref va, .ref ma, .ref cu, .ref sp, .int ld, .int rs]))] := hD
  refine lv_i2l hx hb d_La_count_7 rfl ?_
  refine va_last hx hb hK hP hD hS 0 2 rfl rfl (by unfold vp_in; decide) d_La_count_8 (fun H locs hP hD hS => ?_)
  have hP : va_P G classes [(ou, .inl (cJ, 1, .inr (.inl (vp_updL u 0 ac.toInt64)))), (h0, .inr (0, [.ref tp, .int tl, .ref ar, .int ac, .ref rd, .ref va, .ref ma, .ref cu, .ref sp, .int ld, .int rs]))] H := hP
  have hD : va_D A [(ou, .inl (cJ, 1, .inr (.inl (vp_updL u 0 ac.toInt64)))), (h0, .inr (0, [.ref tp, .int tl, .ref ar, .int ac, .ref rd, .ref va, .ref ma, .ref cu, .ref sp, .int ld, .int rs]))] := hD
  refine lv_goto (tgt := 15) hx hb d_La_count_9 (by decide) ?_
  refine lv_iconst (v := 0) hx hb d_La_count_15 (by decide) ?_
  exact ex_W (fun _ h => ex_mq h) (W.iret (v := 0) hx hb hr (fun t ht hW => ⟨⟨_, ⟨rfl, rfl⟩, by rw [ht]; exact hP, hD⟩, hS.F ht⟩) hS.2.2 d_La_count_16)
set_option maxHeartbeats 8000000 in
set_option maxRecDepth 100000 in
theorem c_La_count_x (l : Launch) (htr : l.stackTraces = false) (G : va_G) (cB cI cJ cZ : ClassId) (h0 : Nat) (tp : Nat) (ar : Nat) (rd : Nat) (va : Nat) (ma : Nat) (cu : Nat) (sp : Nat) (tl : Int32) (ac : Int32) (rs : Int32) (ld : Int32) (n : Int32) (hn : n.toInt < 0 ∨ 6 < n.toInt) (ou : Nat) (u : Nat → Int64) (sz : Nat) : MetX l y_La_count (wxW y_La_count b_La_count 4 (some .int) [(0, 9, 12, 19)]) { frames := 7, cells := 1, slots := 6, locals := 111 } (XP G classes (xtys cB cI cJ cZ) xE [.ref h0, .int n, .ref ou] [(h0, .inr (0, [.ref tp, .int tl, .ref ar, .int ac, .ref rd, .ref va, .ref ma, .ref cu, .ref sp, .int ld, .int rs])), (ou, .inl (cJ, 1, .inr (.inl u)))] sz) (XQ G classes (va_A [(h0, .inr (0, [.ref tp, .int tl, .ref ar, .int ac, .ref rd, .ref va, .ref ma, .ref cu, .ref sp, .int ld, .int rs])), (ou, .inl (cJ, 1, .inr (.inl u)))] sz) (fun o w1 => o = .returned (some (.int 1)) ∧ w1 = [(h0, .inr (0, [.ref tp, .int tl, .ref ar, .int ac, .ref rd, .ref va, .ref ma, .ref cu, .ref sp, .int ld, .int rs])), (ou, .inl (cJ, 1, .inr (.inl u)))])) 1 6 (va_A [(h0, .inr (0, [.ref tp, .int tl, .ref ar, .int ac, .ref rd, .ref va, .ref ma, .ref cu, .ref sp, .int ld, .int rs])), (ou, .inl (cJ, 1, .inr (.inl u)))] sz) := by
  refine ex_ofWW (cc := b_La_count) (maxL := 4) (ret := (some .int)) (by decide) rfl ?_
  intro p e s m args below meth c s₁ B hml hno hv
  obtain ⟨rfl, hsz, hP, hK, hD0, hE⟩ := hv
  have hx := B.exec
  have hb := B.bytes
  have hr := B.returns
  have hts : ∀ w ∈ lw_good, w.before _ s = true := fun w h => atoms_spec (ws := wxW y_La_count b_La_count 4 (some .int) [(0, 9, 12, 19)]) B.pre w (List.mem_cons_of_mem _ h)
  have hown : s.vm.findClass R_La = some m.cls := findClass_of_methodNamed B.named
  have hlocks := B.notSynchronized
  have htr9 : e.platform.stackTraces = false := by rw [B.admits.platform]; exact htr
  subst hsz
  have hNS := xx_nostat hP
  have hD := hD0.self (sz := s.heap.size)
  generalize hAe : va_A [(h0, .inr (0, [.ref tp, .int tl, .ref ar, .int ac, .ref rd, .ref va, .ref ma, .ref cu, .ref sp, .int ld, .int rs])), (ou, .inl (cJ, 1, .inr (.inl u)))] s.heap.size = A at hD hE hNS ⊢
  have hA : ∀ q : Nat, s.heap.size ≤ q → A q := fun q h => by rw [← hAe]; exact Or.inr h
  have hS : va_S A s.heap s.heap [] := va_S.rf
  have hl := lv_entry ([.ref h0, .int n, .ref ou]) (n := 4) (Nat.le_of_ble_eq_true rfl)
  rw [lg_entry_eq]
  generalize (lg_sl ([.ref h0, .int n, .ref ou]) ++ List.replicate (4 - (lg_sl ([.ref h0, .int n, .ref ou])).length) Slot.unset).toArray = ls at hl ⊢
  have hl : lv_has ls 4 [(0, .ref h0), (1, .int n), (2, .ref ou)] := hl
  refine lv_aload_n hx hb d_La_count_0 rfl (lv_at hl 2 rfl) ?_
  refine lv_iconst (v := 0) hx hb d_La_count_1 (by decide) ?_
  refine lv_aload_n hx hb d_La_count_2 rfl (lv_at hl 0 rfl) ?_
  refine lv_iload_n hx hb d_La_count_3 rfl (lv_at hl 1 rfl) ?_
  refine xx_callV (wc := [(h0, .inr (0, [.ref tp, .int tl, .ref ar, .int ac, .ref rd, .ref va, .ref ma, .ref cu, .ref sp, .int ld, .int rs]))]) (wr := [(ou, .inl (cJ, 1, .inr (.inl u)))]) (As := [.int n]) (rest := [.int 0, .ref ou]) ⟨hx, hb, hml, hown, hts⟩ xE_st hK hE hA (c_WR_count_x l htr G cB cI cJ cZ h0 tp ar rd va ma cu sp tl ac rs ld n hn _) (xw_V 1 hts m_1119 m_1120 m_1121 m_1 m_1122 (by decide +kernel) ⟨(Nat.le_of_ble_eq_true rfl), (Nat.le_of_ble_eq_true rfl)⟩) hP hD hS [0] [1] rfl rfl (by decide) (by decide) (by decide) 0 0 rfl rfl rfl rfl hl.1 rfl (Nat.le_of_ble_eq_true rfl) d_La_count_4 ⟨(Nat.le_of_ble_eq_true rfl), (Nat.le_of_ble_eq_true rfl)⟩ (fun v9 w9 H9 l9 hp _ _ _ => absurd hp (by rintro ⟨_, ho, -⟩; cases ho)) (fun x9 w9 H locs hp hP hD hS => ?_)
  obtain ⟨q_1, ho, rfl⟩ := hp
  cases ho
  have hP : va_P G classes [(ou, .inl (cJ, 1, .inr (.inl u))), (h0, .inr (0, [.ref tp, .int tl, .ref ar, .int ac, .ref rd, .ref va, .ref ma, .ref cu, .ref sp, .int ld, .int rs])), (x9, .inr (14, []))] H := hP
  have hD : va_D A [(ou, .inl (cJ, 1, .inr (.inl u))), (h0, .inr (0, [.ref tp, .int tl, .ref ar, .int ac, .ref rd, .ref va, .ref ma, .ref cu, .ref sp, .int ld, .int rs])), (x9, .inr (14, []))] := hD
  refine xx_caught (C := R_xA) hno hown hK hP 2 14 rfl rfl ⟨[], 0, 9, 19, [], rfl, by decide, by decide, by decide, (hts _ m_549), (fun q h => absurd h List.not_mem_nil)⟩ ?_
  refine lv_astore_n (lv' := [(3, .ref x9), (0, .ref h0), (1, .int n), (2, .ref ou)]) hx hb d_La_count_12 rfl hl (by decide) rfl (fun ls hl => ?_)
  refine lv_iconst (v := 1) hx hb d_La_count_13 (by decide) ?_
  have hP := hP.sub (ws' := [(h0, .inr (0, [.ref tp, .int tl, .ref ar, .int ac, .ref rd, .ref va, .ref ma, .ref cu, .ref sp, .int ld, .int rs])), (ou, .inl (cJ, 1, .inr (.inl u)))]) [1, 0] rfl
  have hD := hD.sub (ws' := [(h0, .inr (0, [.ref tp, .int tl, .ref ar, .int ac, .ref rd, .ref va, .ref ma, .ref cu, .ref sp, .int ld, .int rs])), (ou, .inl (cJ, 1, .inr (.inl u)))]) [1, 0] (by decide) rfl
  exact ex_W (fun _ h => ex_mq h) (W.iret (v := 1) hx hb hr (fun t ht hW => ⟨⟨_, ⟨rfl, rfl⟩, by rw [ht]; exact hP, hD⟩, hS.F ht⟩) hS.2.2 d_La_count_14)
