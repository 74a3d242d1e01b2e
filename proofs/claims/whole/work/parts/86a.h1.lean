noncomputable def f_La_feed (fu : Nat) (zSo : KSo) (zWr : KWr) (zOu : KOu) (v_p0 : Int32) (v_p1 : Int32) (v_p2 : Int32) (v_p3 : Int32) (v_p4 : Int32) : Out Empty (KSo × KWr × KOu × Int) := obind2 (f_WR_feed fu zSo zWr v_p0 v_p1 v_p2 v_p3 v_p4) (fun (x_1 : KSo × KWr × Int) => if 0 ≤ (0 : Int) ∧ (0 : Int) < 1 then .ret (x_1.1, x_1.2.1, KOu.mk (vp_updL zOu.out_ (0 : Int).toNat ((iI x_1.2.2).toInt64)), 0) else .bad) (fun (x_1 : KSo × KWr × Nat) => (if x_1.2.2 = 13 then (.ret (x_1.1, x_1.2.1, zOu, 1)) else .bad))
noncomputable def f_La_end (zWr : KWr) (zOu : KOu) (v_p0 : Int) : Out Empty (KWr × KOu × Int) := obind2 (f_WR_end zWr v_p0) (fun (x_1 : KWr × Int) => if 0 ≤ (0 : Int) ∧ (0 : Int) < 1 then .ret (x_1.1, KOu.mk (vp_updL zOu.out_ (0 : Int).toNat ((iI x_1.2).toInt64)), 0) else .bad) (fun (x_1 : KWr × Nat) => (if x_1.2 = 14 then (.ret (x_1.1, zOu, 1)) else .bad))
noncomputable def f_La_argument (zAr : KAr) (zWr : KWr) (zOu : KOu) (v_p0 : Int64) : Out Empty (KAr × KWr × KOu × Int) := obind2 (f_WR_argument zAr zWr v_p0) (fun (x_1 : KAr × KWr × Int) => if 0 ≤ (0 : Int) ∧ (0 : Int) < 1 then .ret (x_1.1, x_1.2.1, KOu.mk (vp_updL zOu.out_ (0 : Int).toNat ((iI x_1.2.2).toInt64)), 0) else .bad) (fun (x_1 : KAr × KWr × Nat) => (if x_1.2.2 = 13 then (.ret (x_1.1, x_1.2.1, zOu, 1)) else .bad))
noncomputable def f_La_global (zW6 : KW6) (zAg : KAg) (zWr : KWr) (zOu : KOu) (v_p0 : Int) : Out Empty (KOu × Int) := obind2 (f_WR_global zW6 zAg zWr v_p0) (fun (x_1 : Int64) => if 0 ≤ (0 : Int) ∧ (0 : Int) < 1 then .ret (KOu.mk (vp_updL zOu.out_ (0 : Int).toNat x_1), 0) else .bad) (fun (x_1 : Nat) => (if x_1 = 14 then (.ret (zOu, 1)) else (if x_1 = 16 then (.ret (zOu, 2)) else .bad)))
noncomputable def f_La_memory (zMb : KMb) (zAg : KAg) (zWr : KWr) (zOu : KOu) (v_p0 : Int) : Out Empty (KOu × Int) := obind2 (f_WR_memory zMb zAg zWr v_p0) (fun (x_1 : Int) => if 0 ≤ (0 : Int) ∧ (0 : Int) < 1 then .ret (KOu.mk (vp_updL zOu.out_ (0 : Int).toNat ((iI x_1).toInt64)), 0) else .bad) (fun (x_1 : Nat) => (if x_1 = 14 then (.ret (zOu, 1)) else (if x_1 = 16 then (.ret (zOu, 2)) else .bad)))
noncomputable def f_La_count (zW3 : KW3) (zW6 : KW6) (zAg : KAg) (zMa : KMa) (zWr : KWr) (zOu : KOu) (v_p0 : Int) : Out Empty (KOu × Int) := obind2 (f_WR_count zW3 zW6 zAg zMa zWr v_p0) (fun (x_1 : Int) => if 0 ≤ (0 : Int) ∧ (0 : Int) < 1 then .ret (KOu.mk (vp_updL zOu.out_ (0 : Int).toNat ((iI x_1).toInt64)), 0) else .bad) (fun (x_1 : Nat) => (if x_1 = 14 then (.ret (zOu, 1)) else .bad))
abbrev b_La_feed : ByteArray := method_3_code
def y_La_feed : MethodName := ⟨R_La, "feed", "(LWaferRunner;IIIII[J)I"⟩
abbrev b_La_end : ByteArray := method_4_code
def y_La_end : MethodName := ⟨R_La, "end", "(LWaferRunner;I[J)I"⟩
abbrev b_La_argument : ByteArray := method_6_code
def y_La_argument : MethodName := ⟨R_La, "argument", "(LWaferRunner;J[J)I"⟩
abbrev b_La_global : ByteArray := method_8_code
def y_La_global : MethodName := ⟨R_La, "global", "(LWaferRunner;I[J)I"⟩
abbrev b_La_memory : ByteArray := method_9_code
def y_La_memory : MethodName := ⟨R_La, "memory", "(LWaferRunner;I[J)I"⟩
abbrev b_La_count : ByteArray := method_10_code
def y_La_count : MethodName := ⟨R_La, "count", "(LWaferRunner;I[J)I"⟩
theorem d_La_feed_0 : decode b_La_feed 0 = .ok (.aload 6, 2) := by decide +kernel
theorem d_La_feed_2 : decode b_La_feed 2 = .ok (.iconst 0, 1) := by decide +kernel
theorem d_La_feed_3 : decode b_La_feed 3 = .ok (.aload_n 0, 1) := by decide +kernel
theorem d_La_feed_4 : decode b_La_feed 4 = .ok (.iload_n 1, 1) := by decide +kernel
theorem d_La_feed_5 : decode b_La_feed 5 = .ok (.iload_n 2, 1) := by decide +kernel
theorem d_La_feed_6 : decode b_La_feed 6 = .ok (.iload_n 3, 1) := by decide +kernel
theorem d_La_feed_7 : decode b_La_feed 7 = .ok (.iload 4, 2) := by decide +kernel
theorem d_La_feed_9 : decode b_La_feed 9 = .ok (.iload 5, 2) := by decide +kernel
theorem d_La_feed_11 : decode b_La_feed 11 = .ok (.invokevirtual 7, 3) := by decide +kernel
theorem d_La_feed_14 : decode b_La_feed 14 = .ok (.i2l, 1) := by decide +kernel
theorem d_La_feed_15 : decode b_La_feed 15 = .ok (.lastore, 1) := by decide +kernel
theorem d_La_feed_16 : decode b_La_feed 16 = .ok (.goto 7, 3) := by decide +kernel
theorem d_La_feed_19 : decode b_La_feed 19 = .ok (.astore 7, 2) := by decide +kernel
theorem d_La_feed_21 : decode b_La_feed 21 = .ok (.iconst 1, 1) := by decide +kernel
theorem d_La_feed_22 : decode b_La_feed 22 = .ok (.ireturn, 1) := by decide +kernel
theorem d_La_feed_23 : decode b_La_feed 23 = .ok (.iconst 0, 1) := by decide +kernel
theorem d_La_feed_24 : decode b_La_feed 24 = .ok (.ireturn, 1) := by decide +kernel
theorem d_La_end_0 : decode b_La_end 0 = .ok (.aload_n 2, 1) := by decide +kernel
theorem d_La_end_1 : decode b_La_end 1 = .ok (.iconst 0, 1) := by decide +kernel
theorem d_La_end_2 : decode b_La_end 2 = .ok (.aload_n 0, 1) := by decide +kernel
theorem d_La_end_3 : decode b_La_end 3 = .ok (.iload_n 1, 1) := by decide +kernel
theorem d_La_end_4 : decode b_La_end 4 = .ok (.invokevirtual 15, 3) := by decide +kernel
theorem d_La_end_7 : decode b_La_end 7 = .ok (.i2l, 1) := by decide +kernel
theorem d_La_end_8 : decode b_La_end 8 = .ok (.lastore, 1) := by decide +kernel
theorem d_La_end_9 : decode b_La_end 9 = .ok (.goto 6, 3) := by decide +kernel
theorem d_La_end_12 : decode b_La_end 12 = .ok (.astore_n 3, 1) := by decide +kernel
theorem d_La_end_13 : decode b_La_end 13 = .ok (.iconst 1, 1) := by decide +kernel
theorem d_La_end_14 : decode b_La_end 14 = .ok (.ireturn, 1) := by decide +kernel
theorem d_La_end_15 : decode b_La_end 15 = .ok (.iconst 0, 1) := by decide +kernel
theorem d_La_end_16 : decode b_La_end 16 = .ok (.ireturn, 1) := by decide +kernel
theorem d_La_argument_0 : decode b_La_argument 0 = .ok (.aload_n 3, 1) := by decide +kernel
theorem d_La_argument_1 : decode b_La_argument 1 = .ok (.iconst 0, 1) := by decide +kernel
theorem d_La_argument_2 : decode b_La_argument 2 = .ok (.aload_n 0, 1) := by decide +kernel
theorem d_La_argument_3 : decode b_La_argument 3 = .ok (.lload_n 1, 1) := by decide +kernel
theorem d_La_argument_4 : decode b_La_argument 4 = .ok (.invokevirtual 27, 3) := by decide +kernel
theorem d_La_argument_7 : decode b_La_argument 7 = .ok (.i2l, 1) := by decide +kernel
theorem d_La_argument_8 : decode b_La_argument 8 = .ok (.lastore, 1) := by decide +kernel
theorem d_La_argument_9 : decode b_La_argument 9 = .ok (.goto 7, 3) := by decide +kernel
theorem d_La_argument_12 : decode b_La_argument 12 = .ok (.astore 4, 2) := by decide +kernel
theorem d_La_argument_14 : decode b_La_argument 14 = .ok (.iconst 1, 1) := by decide +kernel
theorem d_La_argument_15 : decode b_La_argument 15 = .ok (.ireturn, 1) := by decide +kernel
theorem d_La_argument_16 : decode b_La_argument 16 = .ok (.iconst 0, 1) := by decide +kernel
theorem d_La_argument_17 : decode b_La_argument 17 = .ok (.ireturn, 1) := by decide +kernel
theorem d_La_global_0 : decode b_La_global 0 = .ok (.aload_n 2, 1) := by decide +kernel
theorem d_La_global_1 : decode b_La_global 1 = .ok (.iconst 0, 1) := by decide +kernel
theorem d_La_global_2 : decode b_La_global 2 = .ok (.aload_n 0, 1) := by decide +kernel
theorem d_La_global_3 : decode b_La_global 3 = .ok (.iload_n 1, 1) := by decide +kernel
theorem d_La_global_4 : decode b_La_global 4 = .ok (.invokevirtual 39, 3) := by decide +kernel
theorem d_La_global_7 : decode b_La_global 7 = .ok (.lastore, 1) := by decide +kernel
theorem d_La_global_8 : decode b_La_global 8 = .ok (.goto 9, 3) := by decide +kernel
theorem d_La_global_11 : decode b_La_global 11 = .ok (.astore_n 3, 1) := by decide +kernel
theorem d_La_global_12 : decode b_La_global 12 = .ok (.iconst 1, 1) := by decide +kernel
theorem d_La_global_13 : decode b_La_global 13 = .ok (.ireturn, 1) := by decide +kernel
theorem d_La_global_14 : decode b_La_global 14 = .ok (.astore_n 3, 1) := by decide +kernel
theorem d_La_global_15 : decode b_La_global 15 = .ok (.iconst 2, 1) := by decide +kernel
theorem d_La_global_16 : decode b_La_global 16 = .ok (.ireturn, 1) := by decide +kernel
theorem d_La_global_17 : decode b_La_global 17 = .ok (.iconst 0, 1) := by decide +kernel
theorem d_La_global_18 : decode b_La_global 18 = .ok (.ireturn, 1) := by decide +kernel
theorem d_La_memory_0 : decode b_La_memory 0 = .ok (.aload_n 2, 1) := by decide +kernel
theorem d_La_memory_1 : decode b_La_memory 1 = .ok (.iconst 0, 1) := by decide +kernel
theorem d_La_memory_2 : decode b_La_memory 2 = .ok (.aload_n 0, 1) := by decide +kernel
theorem d_La_memory_3 : decode b_La_memory 3 = .ok (.iload_n 1, 1) := by decide +kernel
theorem d_La_memory_4 : decode b_La_memory 4 = .ok (.invokevirtual 42, 3) := by decide +kernel
theorem d_La_memory_7 : decode b_La_memory 7 = .ok (.i2l, 1) := by decide +kernel
theorem d_La_memory_8 : decode b_La_memory 8 = .ok (.lastore, 1) := by decide +kernel
theorem d_La_memory_9 : decode b_La_memory 9 = .ok (.goto 9, 3) := by decide +kernel
theorem d_La_memory_12 : decode b_La_memory 12 = .ok (.astore_n 3, 1) := by decide +kernel
theorem d_La_memory_13 : decode b_La_memory 13 = .ok (.iconst 1, 1) := by decide +kernel
theorem d_La_memory_14 : decode b_La_memory 14 = .ok (.ireturn, 1) := by decide +kernel
theorem d_La_memory_15 : decode b_La_memory 15 = .ok (.astore_n 3, 1) := by decide +kernel
theorem d_La_memory_16 : decode b_La_memory 16 = .ok (.iconst 2, 1) := by decide +kernel
theorem d_La_memory_17 : decode b_La_memory 17 = .ok (.ireturn, 1) := by decide +kernel
theorem d_La_memory_18 : decode b_La_memory 18 = .ok (.iconst 0, 1) := by decide +kernel
theorem d_La_memory_19 : decode b_La_memory 19 = .ok (.ireturn, 1) := by decide +kernel
theorem d_La_count_0 : decode b_La_count 0 = .ok (.aload_n 2, 1) := by decide +kernel
theorem d_La_count_1 : decode b_La_count 1 = .ok (.iconst 0, 1) := by decide +kernel
theorem d_La_count_2 : decode b_La_count 2 = .ok (.aload_n 0, 1) := by decide +kernel
theorem d_La_count_3 : decode b_La_count 3 = .ok (.iload_n 1, 1) := by decide +kernel
theorem d_La_count_4 : decode b_La_count 4 = .ok (.invokevirtual 45, 3) := by decide +kernel
theorem d_La_count_7 : decode b_La_count 7 = .ok (.i2l, 1) := by decide +kernel
theorem d_La_count_8 : decode b_La_count 8 = .ok (.lastore, 1) := by decide +kernel
theorem d_La_count_9 : decode b_La_count 9 = .ok (.goto 6, 3) := by decide +kernel
theorem d_La_count_12 : decode b_La_count 12 = .ok (.astore_n 3, 1) := by decide +kernel
theorem d_La_count_13 : decode b_La_count 13 = .ok (.iconst 1, 1) := by decide +kernel
theorem d_La_count_14 : decode b_La_count 14 = .ok (.ireturn, 1) := by decide +kernel
theorem d_La_count_15 : decode b_La_count 15 = .ok (.iconst 0, 1) := by decide +kernel
theorem d_La_count_16 : decode b_La_count 16 = .ok (.ireturn, 1) := by decide +kernel
theorem m_468 : Cond.methodLink R_La 7 y_WR_feed ∈ lw_good := lw_in (List.mem_append_right _ (List.mem_of_getElem? (i := 468) (by decide +kernel))) (by decide +kernel)
theorem m_469 : Cond.instanceMethod y_WR_feed ∈ lw_good := lw_in (List.mem_append_right _ (List.mem_of_getElem? (i := 469) (by decide +kernel))) (by decide +kernel)
theorem m_470 : Cond.selects R_WR y_WR_feed y_WR_feed ∈ lw_good := lw_in (List.mem_append_right _ (List.mem_of_getElem? (i := 470) (by decide +kernel))) (by decide +kernel)
theorem m_471 : Cond.code y_WR_feed b_WR_feed 6 (some .int) ∈ lw_good := lw_in (List.mem_append_right _ (List.mem_of_getElem? (i := 471) (by decide +kernel))) (by decide +kernel)
theorem m_467 : Cond.classLink R_La 13 R_xI ∈ lw_good := lw_in (List.mem_append_right _ (List.mem_of_getElem? (i := 467) (by decide +kernel))) (by decide +kernel)
theorem m_550 : Cond.methodLink R_La 15 y_WR_end ∈ lw_good := lw_in (List.mem_append_right _ (List.mem_of_getElem? (i := 550) (by decide +kernel))) (by decide +kernel)
theorem m_551 : Cond.instanceMethod y_WR_end ∈ lw_good := lw_in (List.mem_append_right _ (List.mem_of_getElem? (i := 551) (by decide +kernel))) (by decide +kernel)
theorem m_552 : Cond.selects R_WR y_WR_end y_WR_end ∈ lw_good := lw_in (List.mem_append_right _ (List.mem_of_getElem? (i := 552) (by decide +kernel))) (by decide +kernel)
theorem m_553 : Cond.code y_WR_end b_WR_end 2 (some .int) ∈ lw_good := lw_in (List.mem_append_right _ (List.mem_of_getElem? (i := 553) (by decide +kernel))) (by decide +kernel)
theorem m_549 : Cond.classLink R_La 19 R_xA ∈ lw_good := lw_in (List.mem_append_right _ (List.mem_of_getElem? (i := 549) (by decide +kernel))) (by decide +kernel)
theorem m_906 : Cond.methodLink R_La 27 y_WR_argument ∈ lw_good := lw_in (List.mem_append_right _ (List.mem_of_getElem? (i := 906) (by decide +kernel))) (by decide +kernel)
theorem m_907 : Cond.instanceMethod y_WR_argument ∈ lw_good := lw_in (List.mem_append_right _ (List.mem_of_getElem? (i := 907) (by decide +kernel))) (by decide +kernel)
theorem m_908 : Cond.selects R_WR y_WR_argument y_WR_argument ∈ lw_good := lw_in (List.mem_append_right _ (List.mem_of_getElem? (i := 908) (by decide +kernel))) (by decide +kernel)
theorem m_909 : Cond.code y_WR_argument b_WR_argument 3 (some .int) ∈ lw_good := lw_in (List.mem_append_right _ (List.mem_of_getElem? (i := 909) (by decide +kernel))) (by decide +kernel)
theorem m_1104 : Cond.methodLink R_La 39 y_WR_global ∈ lw_good := lw_in (List.mem_append_right _ (List.mem_of_getElem? (i := 1104) (by decide +kernel))) (by decide +kernel)
theorem m_1105 : Cond.instanceMethod y_WR_global ∈ lw_good := lw_in (List.mem_append_right _ (List.mem_of_getElem? (i := 1105) (by decide +kernel))) (by decide +kernel)
theorem m_1106 : Cond.selects R_WR y_WR_global y_WR_global ∈ lw_good := lw_in (List.mem_append_right _ (List.mem_of_getElem? (i := 1106) (by decide +kernel))) (by decide +kernel)
theorem m_1107 : Cond.code y_WR_global b_WR_global 2 (some .long) ∈ lw_good := lw_in (List.mem_append_right _ (List.mem_of_getElem? (i := 1107) (by decide +kernel))) (by decide +kernel)
theorem m_914 : Cond.classLink R_La 35 R_xS ∈ lw_good := lw_in (List.mem_append_right _ (List.mem_of_getElem? (i := 914) (by decide +kernel))) (by decide +kernel)
theorem m_1111 : Cond.methodLink R_La 42 y_WR_memory ∈ lw_good := lw_in (List.mem_append_right _ (List.mem_of_getElem? (i := 1111) (by decide +kernel))) (by decide +kernel)
theorem m_1112 : Cond.instanceMethod y_WR_memory ∈ lw_good := lw_in (List.mem_append_right _ (List.mem_of_getElem? (i := 1112) (by decide +kernel))) (by decide +kernel)
theorem m_1113 : Cond.selects R_WR y_WR_memory y_WR_memory ∈ lw_good := lw_in (List.mem_append_right _ (List.mem_of_getElem? (i := 1113) (by decide +kernel))) (by decide +kernel)
theorem m_1114 : Cond.code y_WR_memory b_WR_memory 2 (some .int) ∈ lw_good := lw_in (List.mem_append_right _ (List.mem_of_getElem? (i := 1114) (by decide +kernel))) (by decide +kernel)
theorem m_1119 : Cond.methodLink R_La 45 y_WR_count ∈ lw_good := lw_in (List.mem_append_right _ (List.mem_of_getElem? (i := 1119) (by decide +kernel))) (by decide +kernel)
theorem m_1120 : Cond.instanceMethod y_WR_count ∈ lw_good := lw_in (List.mem_append_right _ (List.mem_of_getElem? (i := 1120) (by decide +kernel))) (by decide +kernel)
theorem m_1121 : Cond.selects R_WR y_WR_count y_WR_count ∈ lw_good := lw_in (List.mem_append_right _ (List.mem_of_getElem? (i := 1121) (by decide +kernel))) (by decide +kernel)
theorem m_1122 : Cond.code y_WR_count b_WR_count 2 (some .int) ∈ lw_good := lw_in (List.mem_append_right _ (List.mem_of_getElem? (i := 1122) (by decide +kernel))) (by decide +kernel)
set_option maxHeartbeats 8000000 in
set_option maxRecDepth 100000 in
theorem k_La_end (l : Launch) (htr : l.stackTraces = false) (G : va_G) (cB cI cJ cZ cG : ClassId) (aWR : Nat) (aTp : Nat) (aAr : Nat) (aRd : Nat) (aVa : Nat) (aMa : Nat) (aWa : Nat) (aW2 : Nat) (aOut : Nat) (zWr : KWr) (zOu : KOu) (hzWr : KWr.Ok zWr) (hzOu : KOu.Ok zOu) (v_p0 : Int) (hv_p0 : R32 v_p0) (R9 : Out Empty (KWr × KOu × Int)) (hf : f_La_end zWr zOu v_p0 = R9) (hnb : R9 ≠ .bad) (sz : Nat) : MetX l y_La_end (wxW y_La_end b_La_end 4 (some .int) [(0, 9, 12, 19)]) { frames := 7, cells := 1, slots := 6, locals := 111 } (XP G classes (xtys cB cI cJ cZ cG) xE [.ref aWR, .int (iI v_p0), .ref aOut] [(aWR, .inr (0, [.ref aTp, .int (iI zWr.tapeLength), .ref aAr, .int (iI zWr.argumentCount), .ref aRd, .ref aVa, .ref aMa, .ref aWa, .ref aW2, .int (bI zWr.loaded), .int (iI zWr.reason)])), (aOut, .inl (cJ, 1, .inr (.inl zOu.out_)))] sz) (XQ G classes (va_A [(aWR, .inr (0, [.ref aTp, .int (iI zWr.tapeLength), .ref aAr, .int (iI zWr.argumentCount), .ref aRd, .ref aVa, .ref aMa, .ref aWa, .ref aW2, .int (bI zWr.loaded), .int (iI zWr.reason)])), (aOut, .inl (cJ, 1, .inr (.inl zOu.out_)))] sz) (fun o w1 => ozp R9 (fun x9 => (KWr.Ok x9.1 ∧ KOu.Ok x9.2.1 ∧ R32 x9.2.2) ∧ o = .returned (some (.int (iI x9.2.2))) ∧ w1 = [(aWR, .inr (0, [.ref aTp, .int (iI x9.1.tapeLength), .ref aAr, .int (iI x9.1.argumentCount), .ref aRd, .ref aVa, .ref aMa, .ref aWa, .ref aW2, .int (bI x9.1.loaded), .int (iI x9.1.reason)])), (aOut, .inl (cJ, 1, .inr (.inl x9.2.1.out_)))]) (fun _ => False))) 1 6 (va_A [(aWR, .inr (0, [.ref aTp, .int (iI zWr.tapeLength), .ref aAr, .int (iI zWr.argumentCount), .ref aRd, .ref aVa, .ref aMa, .ref aWa, .ref aW2, .int (bI zWr.loaded), .int (iI zWr.reason)])), (aOut, .inl (cJ, 1, .inr (.inl zOu.out_)))] sz) := by
  refine ex_ofWW (cc := b_La_end) (maxL := 4) (ret := (some .int)) (by decide) rfl ?_
  intro p e s m args below meth c s₁ B hml hno hv
  obtain ⟨rfl, hsz, hP, hK, hD0, hE⟩ := hv
  have hx := B.exec
  have hb := B.bytes
  have hr := B.returns
  have hts : ∀ w ∈ lw_good, w.before _ s = true := fun w h => atoms_spec (ws := wxW y_La_end b_La_end 4 (some .int) [(0, 9, 12, 19)]) B.pre w (List.mem_cons_of_mem _ h)
  have hown : s.vm.findClass R_La = some m.cls := findClass_of_methodNamed B.named
  have hlocks := B.notSynchronized
  have htr9 : e.platform.stackTraces = false := by rw [B.admits.platform]; exact htr
  subst hsz
  have hNS := xx_nostat hP
  have hD := hD0.self (sz := s.heap.size)
  generalize hAe : va_A [(aWR, .inr (0, [.ref aTp, .int (iI zWr.tapeLength), .ref aAr, .int (iI zWr.argumentCount), .ref aRd, .ref aVa, .ref aMa, .ref aWa, .ref aW2, .int (bI zWr.loaded), .int (iI zWr.reason)])), (aOut, .inl (cJ, 1, .inr (.inl zOu.out_)))] s.heap.size = A at hD hE hNS ⊢
  have hA : ∀ q : Nat, s.heap.size ≤ q → A q := fun q h => by rw [← hAe]; exact Or.inr h
  have hS : va_S A s.heap s.heap [] := va_S.rf
  have hl := lv_entry ([.ref aWR, .int (iI v_p0), .ref aOut]) (n := 4) (Nat.le_of_ble_eq_true rfl)
  rw [lg_entry_eq]
  generalize (lg_sl ([.ref aWR, .int (iI v_p0), .ref aOut]) ++ List.replicate (4 - (lg_sl ([.ref aWR, .int (iI v_p0), .ref aOut])).length) Slot.unset).toArray = ls at hl ⊢
  have hl : lv_has ls 4 [(0, .ref aWR), (1, .int (iI v_p0)), (2, .ref aOut)] := hl
  unfold f_La_end at hf
  refine lv_aload_n hx hb d_La_end_0 rfl (lv_at hl 2 rfl) ?_
  refine lv_iconst (v := iI 0) hx hb d_La_end_1 (by decide) ?_
  refine lv_aload_n hx hb d_La_end_2 rfl (lv_at hl 0 rfl) ?_
  refine lv_iload_n hx hb d_La_end_3 rfl (lv_at hl 1 rfl) ?_
  replace hf := ob2 hnb hf
  rcases hf with ⟨x_1, e_2, hf⟩ | ⟨x_1, e_2, hf⟩
  · refine xx_callV (wc := [(aWR, .inr (0, [.ref aTp, .int (iI zWr.tapeLength), .ref aAr, .int (iI zWr.argumentCount), .ref aRd, .ref aVa, .ref aMa, .ref aWa, .ref aW2, .int (bI zWr.loaded), .int (iI zWr.reason)]))]) (wr := [(aOut, .inl (cJ, 1, .inr (.inl zOu.out_)))]) (As := [.int (iI v_p0)]) (rest := [.int (iI 0), .ref aOut]) ⟨hx, hb, hml, hown, hts⟩ xE_st hK hE hA (k_WR_end l htr G cB cI cJ cZ cG aWR aTp aAr aRd aVa aMa aWa aW2 zWr hzWr v_p0 hv_p0 (.ret x_1) e_2 ret_nb _) (xw_V 1 hts m_550 m_551 m_552 m_1 m_553 (by decide +kernel) ⟨(Nat.le_of_ble_eq_true rfl), (Nat.le_of_ble_eq_true rfl)⟩) hP hD hS [0] [1] rfl rfl (by decide +kernel) (by decide +kernel) (by decide +kernel) 0 0 rfl rfl rfl rfl hl.1 rfl (Nat.le_of_ble_eq_true rfl) d_La_end_4 ⟨(Nat.le_of_ble_eq_true rfl), (Nat.le_of_ble_eq_true rfl)⟩ (fun v9 w9 H_1 locs_1 hp hP_1 hD_1 hS_1 => ?_) (fun x9 w9 H9 l9 hp _ _ _ => absurd hp (fun q9 => by obtain ⟨-, ho, -⟩ := q9; cases ho))
    clear hS hD hP
    obtain ⟨hx_1, ho, rfl⟩ := hp
    cases ho
    have hQ9 : (fun w9 => va_P G classes w9 H_1 ∧ va_D A w9) [(aOut, .inl (cJ, 1, .inr (.inl zOu.out_))), (aWR, .inr (0, [.ref aTp, .int (iI x_1.1.tapeLength), .ref aAr, .int (iI x_1.1.argumentCount), .ref aRd, .ref aVa, .ref aMa, .ref aWa, .ref aW2, .int (bI x_1.1.loaded), .int (iI x_1.1.reason)]))] := ⟨hP_1, hD_1⟩
    clear hP_1 hD_1
    obtain ⟨hP_1, hD_1⟩ := hQ9
    refine W.widen (k := 1) (n := 6) (Nat.le_of_ble_eq_true rfl) (Nat.le_of_ble_eq_true rfl) ?_
    refine lv_i2l hx hb d_La_end_7 rfl ?_
    replace hf := grd hnb hf
    obtain ⟨g_3, hf⟩ := hf
    refine va_last hx hb hK hP_1 hD_1 hS_1 0 2 rfl rfl (vp_in_iI (show R32 (0) by decide) g_3) d_La_end_8 (fun H_2 locs_2 hP_2 hD_2 hS_2 => ?_)
    clear hS_1 hD_1 hP_1
    rw [iI_clamp (show R32 (0) by decide)] at hP_2 hD_2
    have hQ9 : (fun w9 => va_P G classes w9 H_2 ∧ va_D A w9) [(aOut, .inl (cJ, 1, .inr (.inl (vp_updL zOu.out_ (0 : Int).toNat ((iI x_1.2).toInt64))))), (aWR, .inr (0, [.ref aTp, .int (iI x_1.1.tapeLength), .ref aAr, .int (iI x_1.1.argumentCount), .ref aRd, .ref aVa, .ref aMa, .ref aWa, .ref aW2, .int (bI x_1.1.loaded), .int (iI x_1.1.reason)]))] := ⟨hP_2, hD_2⟩
    clear hP_2 hD_2
    obtain ⟨hP_2, hD_2⟩ := hQ9
    refine lv_goto (tgt := 15) hx hb d_La_end_9 (by decide) ?_
    refine lv_iconst (v := iI 0) hx hb d_La_end_15 (by decide) ?_
    have hQ9 := pd_sub (ws' := [(aWR, .inr (0, [.ref aTp, .int (iI x_1.1.tapeLength), .ref aAr, .int (iI x_1.1.argumentCount), .ref aRd, .ref aVa, .ref aMa, .ref aWa, .ref aW2, .int (bI x_1.1.loaded), .int (iI x_1.1.reason)])), (aOut, .inl (cJ, 1, .inr (.inl (vp_updL zOu.out_ (0 : Int).toNat ((iI x_1.2).toInt64)))))]) hP_2 hD_2 [1, 0] (by decide +kernel) rfl
    clear hP_2 hD_2
    obtain ⟨hP_2, hD_2⟩ := hQ9
    exact ex_W (fun _ h => ex_mq h) (W.iret (v := iI 0) hx hb hr (fun t ht hW => ⟨⟨_, ozr hf ⟨⟨hx_1.1, (KOu.Ok.mk  : KOu.Ok (KOu.mk (vp_updL zOu.out_ (0 : Int).toNat ((iI x_1.2).toInt64)))), (show R32 (0) by decide)⟩, rfl, rfl⟩, by rw [ht]; exact hP_2, hD_2⟩, hS_2.F ht⟩) hS_2.2.2 d_La_end_16)
  · refine xx_callV (wc := [(aWR, .inr (0, [.ref aTp, .int (iI zWr.tapeLength), .ref aAr, .int (iI zWr.argumentCount), .ref aRd, .ref aVa, .ref aMa, .ref aWa, .ref aW2, .int (bI zWr.loaded), .int (iI zWr.reason)]))]) (wr := [(aOut, .inl (cJ, 1, .inr (.inl zOu.out_)))]) (As := [.int (iI v_p0)]) (rest := [.int (iI 0), .ref aOut]) ⟨hx, hb, hml, hown, hts⟩ xE_st hK hE hA (k_WR_end l htr G cB cI cJ cZ cG aWR aTp aAr aRd aVa aMa aWa aW2 zWr hzWr v_p0 hv_p0 (.thr x_1) e_2 thr_nb _) (xw_V 1 hts m_550 m_551 m_552 m_1 m_553 (by decide +kernel) ⟨(Nat.le_of_ble_eq_true rfl), (Nat.le_of_ble_eq_true rfl)⟩) hP hD hS [0] [1] rfl rfl (by decide +kernel) (by decide +kernel) (by decide +kernel) 0 0 rfl rfl rfl rfl hl.1 rfl (Nat.le_of_ble_eq_true rfl) d_La_end_4 ⟨(Nat.le_of_ble_eq_true rfl), (Nat.le_of_ble_eq_true rfl)⟩ (fun v9 w9 H9 l9 hp _ _ _ => absurd hp (fun q9 => by obtain ⟨_, -, ho, -⟩ := q9; cases ho)) (fun x9 w9 H_3 locs_3 hp hP_3 hD_3 hS_3 => ?_)
    clear hS hD hP
    obtain ⟨x_4, hx_1, ho, rfl⟩ := hp
    have e9 : x_4 = x9 := by cases ho; rfl
    subst e9
    clear ho
    have hQ9 : (fun w9 => va_P G classes w9 H_3 ∧ va_D A w9) [(aOut, .inl (cJ, 1, .inr (.inl zOu.out_))), (aWR, .inr (0, [.ref aTp, .int (iI x_1.1.tapeLength), .ref aAr, .int (iI x_1.1.argumentCount), .ref aRd, .ref aVa, .ref aMa, .ref aWa, .ref aW2, .int (bI x_1.1.loaded), .int (iI x_1.1.reason)])), (x_4, .inr (x_1.2, []))] := ⟨hP_3, hD_3⟩
    clear hP_3 hD_3
    obtain ⟨hP_3, hD_3⟩ := hQ9
    rcases Decidable.em (x_1.2 = 14) with q_5 | q_5
    · replace hf := ifp q_5 hf
      rw [q_5] at hP_3 hD_3
      have hQ9 : (fun w9 => va_P G classes w9 H_3 ∧ va_D A w9) [(aOut, .inl (cJ, 1, .inr (.inl zOu.out_))), (aWR, .inr (0, [.ref aTp, .int (iI x_1.1.tapeLength), .ref aAr, .int (iI x_1.1.argumentCount), .ref aRd, .ref aVa, .ref aMa, .ref aWa, .ref aW2, .int (bI x_1.1.loaded), .int (iI x_1.1.reason)])), (x_4, .inr (14, []))] := ⟨hP_3, hD_3⟩
      clear hP_3 hD_3
      obtain ⟨hP_3, hD_3⟩ := hQ9
      refine xx_caught (C := R_xA) hno hown hK hP_3 2 14 rfl rfl ⟨[], 0, 9, 19, [], rfl, by decide, by decide, by decide, (hts _ m_549), (fun q h => absurd h List.not_mem_nil)⟩ ?_
      refine lv_astore_n (lv' := [(3, .ref x_4), (0, .ref aWR), (1, .int (iI v_p0)), (2, .ref aOut)]) hx hb d_La_end_12 rfl hl (by decide) rfl (fun ls hl => ?_)
      refine lv_iconst (v := iI 1) hx hb d_La_end_13 (by decide) ?_
      have hQ9 := pd_sub (ws' := [(aWR, .inr (0, [.ref aTp, .int (iI x_1.1.tapeLength), .ref aAr, .int (iI x_1.1.argumentCount), .ref aRd, .ref aVa, .ref aMa, .ref aWa, .ref aW2, .int (bI x_1.1.loaded), .int (iI x_1.1.reason)])), (aOut, .inl (cJ, 1, .inr (.inl zOu.out_)))]) hP_3 hD_3 [1, 0] (by decide +kernel) rfl
      clear hP_3 hD_3
      obtain ⟨hP_3, hD_3⟩ := hQ9
      exact ex_W (fun _ h => ex_mq h) (W.iret (v := iI 1) hx hb hr (fun t ht hW => ⟨⟨_, ozr hf ⟨⟨hx_1, hzOu, (show R32 (1) by decide)⟩, rfl, rfl⟩, by rw [ht]; exact hP_3, hD_3⟩, hS_3.F ht⟩) hS_3.2.2 d_La_end_14)
    replace hf := ifn q_5 hf
    exact absurd hf.symm hnb
set_option maxHeartbeats 8000000 in
set_option maxRecDepth 100000 in
theorem k_La_argument (l : Launch) (htr : l.stackTraces = false) (G : va_G) (cB cI cJ cZ cG : ClassId) (aAr : Nat) (aWR : Nat) (aTp : Nat) (aRd : Nat) (aVa : Nat) (aMa : Nat) (aWa : Nat) (aW2 : Nat) (aOut : Nat) (zAr : KAr) (zWr : KWr) (zOu : KOu) (hzAr : KAr.Ok zAr) (hzWr : KWr.Ok zWr) (hzOu : KOu.Ok zOu) (v_p0 : Int64) (R9 : Out Empty (KAr × KWr × KOu × Int)) (hf : f_La_argument zAr zWr zOu v_p0 = R9) (hnb : R9 ≠ .bad) (sz : Nat) : MetX l y_La_argument (wxW y_La_argument b_La_argument 5 (some .int) [(0, 9, 12, 13)]) { frames := 7, cells := 1, slots := 6, locals := 112 } (XP G classes (xtys cB cI cJ cZ cG) xE [.ref aWR, .long v_p0, .ref aOut] [(aAr, .inl (cJ, 8, .inr (.inl zAr.arguments))), (aWR, .inr (0, [.ref aTp, .int (iI zWr.tapeLength), .ref aAr, .int (iI zWr.argumentCount), .ref aRd, .ref aVa, .ref aMa, .ref aWa, .ref aW2, .int (bI zWr.loaded), .int (iI zWr.reason)])), (aOut, .inl (cJ, 1, .inr (.inl zOu.out_)))] sz) (XQ G classes (va_A [(aAr, .inl (cJ, 8, .inr (.inl zAr.arguments))), (aWR, .inr (0, [.ref aTp, .int (iI zWr.tapeLength), .ref aAr, .int (iI zWr.argumentCount), .ref aRd, .ref aVa, .ref aMa, .ref aWa, .ref aW2, .int (bI zWr.loaded), .int (iI zWr.reason)])), (aOut, .inl (cJ, 1, .inr (.inl zOu.out_)))] sz) (fun o w1 => ozp R9 (fun x9 => (KAr.Ok x9.1 ∧ KWr.Ok x9.2.1 ∧ KOu.Ok x9.2.2.1 ∧ R32 x9.2.2.2) ∧ o = .returned (some (.int (iI x9.2.2.2))) ∧ w1 = [(aAr, .inl (cJ, 8, .inr (.inl x9.1.arguments))), (aWR, .inr (0, [.ref aTp, .int (iI x9.2.1.tapeLength), .ref aAr, .int (iI x9.2.1.argumentCount), .ref aRd, .ref aVa, .ref aMa, .ref aWa, .ref aW2, .int (bI x9.2.1.loaded), .int (iI x9.2.1.reason)])), (aOut, .inl (cJ, 1, .inr (.inl x9.2.2.1.out_)))]) (fun _ => False))) 1 6 (va_A [(aAr, .inl (cJ, 8, .inr (.inl zAr.arguments))), (aWR, .inr (0, [.ref aTp, .int (iI zWr.tapeLength), .ref aAr, .int (iI zWr.argumentCount), .ref aRd, .ref aVa, .ref aMa, .ref aWa, .ref aW2, .int (bI zWr.loaded), .int (iI zWr.reason)])), (aOut, .inl (cJ, 1, .inr (.inl zOu.out_)))] sz) := by
  refine ex_ofWW (cc := b_La_argument) (maxL := 5) (ret := (some .int)) (by decide) rfl ?_
  intro p e s m args below meth c s₁ B hml hno hv
  obtain ⟨rfl, hsz, hP, hK, hD0, hE⟩ := hv
  have hx := B.exec
  have hb := B.bytes
  have hr := B.returns
  have hts : ∀ w ∈ lw_good, w.before _ s = true := fun w h => atoms_spec (ws := wxW y_La_argument b_La_argument 5 (some .int) [(0, 9, 12, 13)]) B.pre w (List.mem_cons_of_mem _ h)
  have hown : s.vm.findClass R_La = some m.cls := findClass_of_methodNamed B.named
  have hlocks := B.notSynchronized
  have htr9 : e.platform.stackTraces = false := by rw [B.admits.platform]; exact htr
  subst hsz
  have hNS := xx_nostat hP
  have hD := hD0.self (sz := s.heap.size)
  generalize hAe : va_A [(aAr, .inl (cJ, 8, .inr (.inl zAr.arguments))), (aWR, .inr (0, [.ref aTp, .int (iI zWr.tapeLength), .ref aAr, .int (iI zWr.argumentCount), .ref aRd, .ref aVa, .ref aMa, .ref aWa, .ref aW2, .int (bI zWr.loaded), .int (iI zWr.reason)])), (aOut, .inl (cJ, 1, .inr (.inl zOu.out_)))] s.heap.size = A at hD hE hNS ⊢
  have hA : ∀ q : Nat, s.heap.size ≤ q → A q := fun q h => by rw [← hAe]; exact Or.inr h
  have hS : va_S A s.heap s.heap [] := va_S.rf
  have hl := lv_entry ([.ref aWR, .long v_p0, .ref aOut]) (n := 5) (Nat.le_of_ble_eq_true rfl)
  rw [lg_entry_eq]
  generalize (lg_sl ([.ref aWR, .long v_p0, .ref aOut]) ++ List.replicate (5 - (lg_sl ([.ref aWR, .long v_p0, .ref aOut])).length) Slot.unset).toArray = ls at hl ⊢
  have hl : lv_has ls 5 [(0, .ref aWR), (1, .long v_p0), (3, .ref aOut)] := hl
  unfold f_La_argument at hf
  refine lv_aload_n hx hb d_La_argument_0 rfl (lv_at hl 2 rfl) ?_
  refine lv_iconst (v := iI 0) hx hb d_La_argument_1 (by decide) ?_
  refine lv_aload_n hx hb d_La_argument_2 rfl (lv_at hl 0 rfl) ?_
  refine lv_lload_n hx hb d_La_argument_3 rfl (lv_at hl 1 rfl) ?_
  replace hf := ob2 hnb hf
  rcases hf with ⟨x_1, e_2, hf⟩ | ⟨x_1, e_2, hf⟩
  · refine xx_callV (wc := [(aAr, .inl (cJ, 8, .inr (.inl zAr.arguments))), (aWR, .inr (0, [.ref aTp, .int (iI zWr.tapeLength), .ref aAr, .int (iI zWr.argumentCount), .ref aRd, .ref aVa, .ref aMa, .ref aWa, .ref aW2, .int (bI zWr.loaded), .int (iI zWr.reason)]))]) (wr := [(aOut, .inl (cJ, 1, .inr (.inl zOu.out_)))]) (As := [.long v_p0]) (rest := [.int (iI 0), .ref aOut]) ⟨hx, hb, hml, hown, hts⟩ xE_st hK hE hA (k_WR_argument l htr G cB cI cJ cZ cG aAr aWR aTp aRd aVa aMa aWa aW2 zAr zWr hzAr hzWr v_p0 (.ret x_1) e_2 ret_nb _) (xw_V 1 hts m_906 m_907 m_908 m_1 m_909 (by decide +kernel) ⟨(Nat.le_of_ble_eq_true rfl), (Nat.le_of_ble_eq_true rfl)⟩) hP hD hS [0, 1] [2] rfl rfl (by decide +kernel) (by decide +kernel) (by decide +kernel) 1 0 rfl rfl rfl rfl hl.1 rfl (Nat.le_of_ble_eq_true rfl) d_La_argument_4 ⟨(Nat.le_of_ble_eq_true rfl), (Nat.le_of_ble_eq_true rfl)⟩ (fun v9 w9 H_1 locs_1 hp hP_1 hD_1 hS_1 => ?_) (fun x9 w9 H9 l9 hp _ _ _ => absurd hp (fun q9 => by obtain ⟨-, ho, -⟩ := q9; cases ho))
    clear hS hD hP
    obtain ⟨hx_1, ho, rfl⟩ := hp
    cases ho
    have hQ9 : (fun w9 => va_P G classes w9 H_1 ∧ va_D A w9) [(aOut, .inl (cJ, 1, .inr (.inl zOu.out_))), (aAr, .inl (cJ, 8, .inr (.inl x_1.1.arguments))), (aWR, .inr (0, [.ref aTp, .int (iI x_1.2.1.tapeLength), .ref aAr, .int (iI x_1.2.1.argumentCount), .ref aRd, .ref aVa, .ref aMa, .ref aWa, .ref aW2, .int (bI x_1.2.1.loaded), .int (iI x_1.2.1.reason)]))] := ⟨hP_1, hD_1⟩
    clear hP_1 hD_1
    obtain ⟨hP_1, hD_1⟩ := hQ9
    refine W.widen (k := 1) (n := 6) (Nat.le_of_ble_eq_true rfl) (Nat.le_of_ble_eq_true rfl) ?_
    refine lv_i2l hx hb d_La_argument_7 rfl ?_
    replace hf := grd hnb hf
    obtain ⟨g_3, hf⟩ := hf
    refine va_last hx hb hK hP_1 hD_1 hS_1 0 2 rfl rfl (vp_in_iI (show R32 (0) by decide) g_3) d_La_argument_8 (fun H_2 locs_2 hP_2 hD_2 hS_2 => ?_)
    clear hS_1 hD_1 hP_1
    rw [iI_clamp (show R32 (0) by decide)] at hP_2 hD_2
    have hQ9 : (fun w9 => va_P G classes w9 H_2 ∧ va_D A w9) [(aOut, .inl (cJ, 1, .inr (.inl (vp_updL zOu.out_ (0 : Int).toNat ((iI x_1.2.2).toInt64))))), (aAr, .inl (cJ, 8, .inr (.inl x_1.1.arguments))), (aWR, .inr (0, [.ref aTp, .int (iI x_1.2.1.tapeLength), .ref aAr, .int (iI x_1.2.1.argumentCount), .ref aRd, .ref aVa, .ref aMa, .ref aWa, .ref aW2, .int (bI x_1.2.1.loaded), .int (iI x_1.2.1.reason)]))] := ⟨hP_2, hD_2⟩
    clear hP_2 hD_2
    obtain ⟨hP_2, hD_2⟩ := hQ9
    refine lv_goto (tgt := 16) hx hb d_La_argument_9 (by decide) ?_
    refine lv_iconst (v := iI 0) hx hb d_La_argument_16 (by decide) ?_
    have hQ9 := pd_sub (ws' := [(aAr, .inl (cJ, 8, .inr (.inl x_1.1.arguments))), (aWR, .inr (0, [.ref aTp, .int (iI x_1.2.1.tapeLength), .ref aAr, .int (iI x_1.2.1.argumentCount), .ref aRd, .ref aVa, .ref aMa, .ref aWa, .ref aW2, .int (bI x_1.2.1.loaded), .int (iI x_1.2.1.reason)])), (aOut, .inl (cJ, 1, .inr (.inl (vp_updL zOu.out_ (0 : Int).toNat ((iI x_1.2.2).toInt64)))))]) hP_2 hD_2 [1, 2, 0] (by decide +kernel) rfl
    clear hP_2 hD_2
    obtain ⟨hP_2, hD_2⟩ := hQ9
    exact ex_W (fun _ h => ex_mq h) (W.iret (v := iI 0) hx hb hr (fun t ht hW => ⟨⟨_, ozr hf ⟨⟨hx_1.1, hx_1.2.1, (KOu.Ok.mk  : KOu.Ok (KOu.mk (vp_updL zOu.out_ (0 : Int).toNat ((iI x_1.2.2).toInt64)))), (show R32 (0) by decide)⟩, rfl, rfl⟩, by rw [ht]; exact hP_2, hD_2⟩, hS_2.F ht⟩) hS_2.2.2 d_La_argument_17)
  · refine xx_callV (wc := [(aAr, .inl (cJ, 8, .inr (.inl zAr.arguments))), (aWR, .inr (0, [.ref aTp, .int (iI zWr.tapeLength), .ref aAr, .int (iI zWr.argumentCount), .ref aRd, .ref aVa, .ref aMa, .ref aWa, .ref aW2, .int (bI zWr.loaded), .int (iI zWr.reason)]))]) (wr := [(aOut, .inl (cJ, 1, .inr (.inl zOu.out_)))]) (As := [.long v_p0]) (rest := [.int (iI 0), .ref aOut]) ⟨hx, hb, hml, hown, hts⟩ xE_st hK hE hA (k_WR_argument l htr G cB cI cJ cZ cG aAr aWR aTp aRd aVa aMa aWa aW2 zAr zWr hzAr hzWr v_p0 (.thr x_1) e_2 thr_nb _) (xw_V 1 hts m_906 m_907 m_908 m_1 m_909 (by decide +kernel) ⟨(Nat.le_of_ble_eq_true rfl), (Nat.le_of_ble_eq_true rfl)⟩) hP hD hS [0, 1] [2] rfl rfl (by decide +kernel) (by decide +kernel) (by decide +kernel) 1 0 rfl rfl rfl rfl hl.1 rfl (Nat.le_of_ble_eq_true rfl) d_La_argument_4 ⟨(Nat.le_of_ble_eq_true rfl), (Nat.le_of_ble_eq_true rfl)⟩ (fun v9 w9 H9 l9 hp _ _ _ => absurd hp (fun q9 => by obtain ⟨_, -, ho, -⟩ := q9; cases ho)) (fun x9 w9 H_3 locs_3 hp hP_3 hD_3 hS_3 => ?_)
    clear hS hD hP
    obtain ⟨x_4, hx_1, ho, rfl⟩ := hp
    have e9 : x_4 = x9 := by cases ho; rfl
    subst e9
    clear ho
    have hQ9 : (fun w9 => va_P G classes w9 H_3 ∧ va_D A w9) [(aOut, .inl (cJ, 1, .inr (.inl zOu.out_))), (aAr, .inl (cJ, 8, .inr (.inl x_1.1.arguments))), (aWR, .inr (0, [.ref aTp, .int (iI x_1.2.1.tapeLength), .ref aAr, .int (iI x_1.2.1.argumentCount), .ref aRd, .ref aVa, .ref aMa, .ref aWa, .ref aW2, .int (bI x_1.2.1.loaded), .int (iI x_1.2.1.reason)])), (x_4, .inr (x_1.2.2, []))] := ⟨hP_3, hD_3⟩
    clear hP_3 hD_3
    obtain ⟨hP_3, hD_3⟩ := hQ9
    rcases Decidable.em (x_1.2.2 = 13) with q_5 | q_5
    · replace hf := ifp q_5 hf
      rw [q_5] at hP_3 hD_3
      have hQ9 : (fun w9 => va_P G classes w9 H_3 ∧ va_D A w9) [(aOut, .inl (cJ, 1, .inr (.inl zOu.out_))), (aAr, .inl (cJ, 8, .inr (.inl x_1.1.arguments))), (aWR, .inr (0, [.ref aTp, .int (iI x_1.2.1.tapeLength), .ref aAr, .int (iI x_1.2.1.argumentCount), .ref aRd, .ref aVa, .ref aMa, .ref aWa, .ref aW2, .int (bI x_1.2.1.loaded), .int (iI x_1.2.1.reason)])), (x_4, .inr (13, []))] := ⟨hP_3, hD_3⟩
      clear hP_3 hD_3
      obtain ⟨hP_3, hD_3⟩ := hQ9
      refine xx_caught (C := R_xI) hno hown hK hP_3 3 13 rfl rfl ⟨[], 0, 9, 13, [], rfl, by decide, by decide, by decide, (hts _ m_467), (fun q h => absurd h List.not_mem_nil)⟩ ?_
      refine lv_astore (lv' := [(4, .ref x_4), (0, .ref aWR), (1, .long v_p0), (3, .ref aOut)]) hx hb d_La_argument_12 hl (by decide) rfl (fun ls hl => ?_)
      refine lv_iconst (v := iI 1) hx hb d_La_argument_14 (by decide) ?_
      have hQ9 := pd_sub (ws' := [(aAr, .inl (cJ, 8, .inr (.inl x_1.1.arguments))), (aWR, .inr (0, [.ref aTp, .int (iI x_1.2.1.tapeLength), .ref aAr, .int (iI x_1.2.1.argumentCount), .ref aRd, .ref aVa, .ref aMa, .ref aWa, .ref aW2, .int (bI x_1.2.1.loaded), .int (iI x_1.2.1.reason)])), (aOut, .inl (cJ, 1, .inr (.inl zOu.out_)))]) hP_3 hD_3 [1, 2, 0] (by decide +kernel) rfl
      clear hP_3 hD_3
      obtain ⟨hP_3, hD_3⟩ := hQ9
      exact ex_W (fun _ h => ex_mq h) (W.iret (v := iI 1) hx hb hr (fun t ht hW => ⟨⟨_, ozr hf ⟨⟨hx_1.1, hx_1.2, hzOu, (show R32 (1) by decide)⟩, rfl, rfl⟩, by rw [ht]; exact hP_3, hD_3⟩, hS_3.F ht⟩) hS_3.2.2 d_La_argument_15)
    replace hf := ifn q_5 hf
    exact absurd hf.symm hnb
