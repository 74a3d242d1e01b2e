noncomputable def f_WR_feed (fu : Nat) (zSo : KSo) (zWr : KWr) (v_a : Int32) (v_b : Int32) (v_c : Int32) (v_d : Int32) (v_e : Int32) : Out (KSo × KWr × Nat) (KSo × KWr × Int) := if R32 (zWr.tapeLength + 20) then if (zWr.tapeLength + 20) ≤ 2000 then (obind (f_WR_putInt fu zSo zWr v_a) (fun (x_3 : KSo × KWr) => obind (f_WR_putInt fu x_3.1 x_3.2 v_b) (fun (x_5 : KSo × KWr) => obind (f_WR_putInt fu x_5.1 x_5.2 v_c) (fun (x_7 : KSo × KWr) => obind (f_WR_putInt fu x_7.1 x_7.2 v_d) (fun (x_9 : KSo × KWr) => obind (f_WR_putInt fu x_9.1 x_9.2 v_e) (fun (x_11 : KSo × KWr) => .ret (x_11.1, x_11.2, x_11.2.tapeLength))))))) else (.thr (zSo, zWr, 13)) else .bad
noncomputable def f_WR_end (zWr : KWr) (v_n : Int) : Out (KWr × Nat) (KWr × Int) := jp (fun (y_1 : Unit) => (.thr (zWr, 14) : Out (KWr × Nat) (KWr × Int))) (fun K_2 => if v_n < 0 then (K_2 ()) else (if v_n ≤ zWr.tapeLength then (.ret (KWr.mk v_n zWr.argumentCount zWr.loaded zWr.reason, v_n)) else (K_2 ())))
noncomputable def f_WR_find (fu : Nat) (zSo : KSo) (zEx : KEx) (zWr : KWr) : Out Empty (KWr × Int) := jp (fun (y_1 : Int) => (.ret (KWr.mk 0 zWr.argumentCount zWr.loaded zWr.reason, y_1) : Out Empty (KWr × Int))) (fun K_2 => if zWr.loaded = true then (obind (f_Ex_functionNamed fu zSo zEx zWr.tapeLength) (fun (x_4 : Int) => K_2 x_4)) else (K_2 (-1)))
noncomputable def f_WR_argument (zAr : KAr) (zWr : KWr) (v_v : Int64) : Out (KAr × KWr × Nat) (KAr × KWr × Int) := if zWr.argumentCount < 8 then (if 0 ≤ zWr.argumentCount ∧ zWr.argumentCount < 8 then if R32 (zWr.argumentCount + 1) then .ret (KAr.mk (vp_updL zAr.arguments zWr.argumentCount.toNat v_v), KWr.mk zWr.tapeLength (zWr.argumentCount + 1) zWr.loaded zWr.reason, zWr.argumentCount + 1) else .bad else .bad) else (.thr (zAr, zWr, 13))
noncomputable def f_WR_global (zW6 : KW6) (zAg : KAg) (zWr : KWr) (v_g : Int) : Out (Nat) (Int64) := obind2 (f_WR_requireModule zWr) (fun (x_1 : Unit) => obind2 (f_WR_requireRange v_g zW6.globalCount) (fun (x_3 : Unit) => if 0 ≤ v_g ∧ v_g < 20 then .ret (zAg.globals v_g.toNat) else .bad) (fun (x_3 : Nat) => .thr x_3)) (fun (x_1 : Nat) => .thr x_1)
noncomputable def f_WR_memory (zMb : KMb) (zAg : KAg) (zWr : KWr) (v_i : Int) : Out (Nat) (Int) := obind2 (f_WR_requireModule zWr) (fun (x_1 : Unit) => if R32 (zAg.pages * 65536) then obind2 (f_WR_requireRange v_i (zAg.pages * 65536)) (fun (x_4 : Unit) => if 0 ≤ v_i ∧ v_i < 131072 then .ret (by8 (zMb.bytes v_i.toNat)) else .bad) (fun (x_4 : Nat) => .thr x_4) else .bad) (fun (x_1 : Nat) => .thr x_1)
noncomputable def f_WR_count (zW3 : KW3) (zW6 : KW6) (zAg : KAg) (zMa : KMa) (zWr : KWr) (v_what : Int) : Out (Nat) (Int) := (if v_what = 0 then (.ret zWr.tapeLength) else (if v_what = 1 then (.ret zWr.reason) else (if v_what = 2 then (jp (fun (y_4 : Int) => (.ret y_4 : Out (Nat) (Int))) (fun K_5 => if zWr.loaded = true then (K_5 zW3.functionCount) else (K_5 (-1)))) else (if v_what = 3 then (jp (fun (y_8 : Int) => (.ret y_8 : Out (Nat) (Int))) (fun K_9 => if zWr.loaded = true then (K_9 zW6.globalCount) else (K_9 (-1)))) else (if v_what = 4 then (jp (fun (y_12 : Int) => (.ret y_12 : Out (Nat) (Int))) (fun K_13 => if zWr.loaded = true then (K_13 zAg.pages) else (K_13 (-1)))) else (if v_what = 5 then (.ret zMa.steps) else (if v_what = 6 then (.ret zWr.argumentCount) else (.thr 14))))))))
abbrev b_WR_feed : ByteArray := prog_1_method_2_code
def y_WR_feed : MethodName := ⟨R_WR, "feed", "(IIIII)I"⟩
abbrev b_WR_end : ByteArray := prog_1_method_3_code
def y_WR_end : MethodName := ⟨R_WR, "end", "(I)I"⟩
abbrev b_WR_find : ByteArray := prog_1_method_5_code
def y_WR_find : MethodName := ⟨R_WR, "find", "()I"⟩
abbrev b_WR_argument : ByteArray := prog_1_method_6_code
def y_WR_argument : MethodName := ⟨R_WR, "argument", "(J)I"⟩
abbrev b_WR_global : ByteArray := prog_1_method_8_code
def y_WR_global : MethodName := ⟨R_WR, "global", "(I)J"⟩
abbrev b_WR_memory : ByteArray := prog_1_method_9_code
def y_WR_memory : MethodName := ⟨R_WR, "memory", "(I)I"⟩
abbrev b_WR_count : ByteArray := prog_1_method_10_code
def y_WR_count : MethodName := ⟨R_WR, "count", "(I)I"⟩
theorem d_WR_feed_0 : decode b_WR_feed 0 = .ok (.aload_n 0, 1) := by decide +kernel
theorem d_WR_feed_1 : decode b_WR_feed 1 = .ok (.getfield 48, 3) := by decide +kernel
theorem d_WR_feed_4 : decode b_WR_feed 4 = .ok (.bipush 20, 2) := by decide +kernel
theorem d_WR_feed_6 : decode b_WR_feed 6 = .ok (.iadd, 1) := by decide +kernel
theorem d_WR_feed_7 : decode b_WR_feed 7 = .ok (.sipush 2000, 3) := by decide +kernel
theorem d_WR_feed_10 : decode b_WR_feed 10 = .ok (.if_icmp .le 13, 3) := by decide +kernel
theorem d_WR_feed_13 : decode b_WR_feed 13 = .ok (.new 52, 3) := by decide +kernel
theorem d_WR_feed_16 : decode b_WR_feed 16 = .ok (.dup, 1) := by decide +kernel
theorem d_WR_feed_17 : decode b_WR_feed 17 = .ok (.ldc 54, 2) := by decide +kernel
theorem d_WR_feed_19 : decode b_WR_feed 19 = .ok (.invokespecial 56, 3) := by decide +kernel
theorem d_WR_feed_22 : decode b_WR_feed 22 = .ok (.athrow, 1) := by decide +kernel
theorem d_WR_feed_23 : decode b_WR_feed 23 = .ok (.aload_n 0, 1) := by decide +kernel
theorem d_WR_feed_24 : decode b_WR_feed 24 = .ok (.iload_n 1, 1) := by decide +kernel
theorem d_WR_feed_25 : decode b_WR_feed 25 = .ok (.invokevirtual 59, 3) := by decide +kernel
theorem d_WR_feed_28 : decode b_WR_feed 28 = .ok (.aload_n 0, 1) := by decide +kernel
theorem d_WR_feed_29 : decode b_WR_feed 29 = .ok (.iload_n 2, 1) := by decide +kernel
theorem d_WR_feed_30 : decode b_WR_feed 30 = .ok (.invokevirtual 59, 3) := by decide +kernel
theorem d_WR_feed_33 : decode b_WR_feed 33 = .ok (.aload_n 0, 1) := by decide +kernel
theorem d_WR_feed_34 : decode b_WR_feed 34 = .ok (.iload_n 3, 1) := by decide +kernel
theorem d_WR_feed_35 : decode b_WR_feed 35 = .ok (.invokevirtual 59, 3) := by decide +kernel
theorem d_WR_feed_38 : decode b_WR_feed 38 = .ok (.aload_n 0, 1) := by decide +kernel
theorem d_WR_feed_39 : decode b_WR_feed 39 = .ok (.iload 4, 2) := by decide +kernel
theorem d_WR_feed_41 : decode b_WR_feed 41 = .ok (.invokevirtual 59, 3) := by decide +kernel
theorem d_WR_feed_44 : decode b_WR_feed 44 = .ok (.aload_n 0, 1) := by decide +kernel
theorem d_WR_feed_45 : decode b_WR_feed 45 = .ok (.iload 5, 2) := by decide +kernel
theorem d_WR_feed_47 : decode b_WR_feed 47 = .ok (.invokevirtual 59, 3) := by decide +kernel
theorem d_WR_feed_50 : decode b_WR_feed 50 = .ok (.aload_n 0, 1) := by decide +kernel
theorem d_WR_feed_51 : decode b_WR_feed 51 = .ok (.getfield 48, 3) := by decide +kernel
theorem d_WR_feed_54 : decode b_WR_feed 54 = .ok (.ireturn, 1) := by decide +kernel
theorem d_WR_end_0 : decode b_WR_end 0 = .ok (.iload_n 1, 1) := by decide +kernel
theorem d_WR_end_1 : decode b_WR_end 1 = .ok (.ifCond .lt 11, 3) := by decide +kernel
theorem d_WR_end_4 : decode b_WR_end 4 = .ok (.iload_n 1, 1) := by decide +kernel
theorem d_WR_end_5 : decode b_WR_end 5 = .ok (.aload_n 0, 1) := by decide +kernel
theorem d_WR_end_6 : decode b_WR_end 6 = .ok (.getfield 48, 3) := by decide +kernel
theorem d_WR_end_9 : decode b_WR_end 9 = .ok (.if_icmp .le 13, 3) := by decide +kernel
theorem d_WR_end_12 : decode b_WR_end 12 = .ok (.new 63, 3) := by decide +kernel
theorem d_WR_end_15 : decode b_WR_end 15 = .ok (.dup, 1) := by decide +kernel
theorem d_WR_end_16 : decode b_WR_end 16 = .ok (.ldc 65, 2) := by decide +kernel
theorem d_WR_end_18 : decode b_WR_end 18 = .ok (.invokespecial 67, 3) := by decide +kernel
theorem d_WR_end_21 : decode b_WR_end 21 = .ok (.athrow, 1) := by decide +kernel
theorem d_WR_end_22 : decode b_WR_end 22 = .ok (.aload_n 0, 1) := by decide +kernel
theorem d_WR_end_23 : decode b_WR_end 23 = .ok (.iload_n 1, 1) := by decide +kernel
theorem d_WR_end_24 : decode b_WR_end 24 = .ok (.putfield 48, 3) := by decide +kernel
theorem d_WR_end_27 : decode b_WR_end 27 = .ok (.iload_n 1, 1) := by decide +kernel
theorem d_WR_end_28 : decode b_WR_end 28 = .ok (.ireturn, 1) := by decide +kernel
theorem d_WR_find_0 : decode b_WR_find 0 = .ok (.aload_n 0, 1) := by decide +kernel
theorem d_WR_find_1 : decode b_WR_find 1 = .ok (.getfield 48, 3) := by decide +kernel
theorem d_WR_find_4 : decode b_WR_find 4 = .ok (.istore_n 1, 1) := by decide +kernel
theorem d_WR_find_5 : decode b_WR_find 5 = .ok (.aload_n 0, 1) := by decide +kernel
theorem d_WR_find_6 : decode b_WR_find 6 = .ok (.iconst 0, 1) := by decide +kernel
theorem d_WR_find_7 : decode b_WR_find 7 = .ok (.putfield 48, 3) := by decide +kernel
theorem d_WR_find_10 : decode b_WR_find 10 = .ok (.aload_n 0, 1) := by decide +kernel
theorem d_WR_find_11 : decode b_WR_find 11 = .ok (.getfield 84, 3) := by decide +kernel
theorem d_WR_find_14 : decode b_WR_find 14 = .ok (.ifCond .eq 21, 3) := by decide +kernel
theorem d_WR_find_17 : decode b_WR_find 17 = .ok (.aload_n 0, 1) := by decide +kernel
theorem d_WR_find_18 : decode b_WR_find 18 = .ok (.getfield 41, 3) := by decide +kernel
theorem d_WR_find_21 : decode b_WR_find 21 = .ok (.getfield 95, 3) := by decide +kernel
theorem d_WR_find_24 : decode b_WR_find 24 = .ok (.aload_n 0, 1) := by decide +kernel
theorem d_WR_find_25 : decode b_WR_find 25 = .ok (.getfield 9, 3) := by decide +kernel
theorem d_WR_find_28 : decode b_WR_find 28 = .ok (.iload_n 1, 1) := by decide +kernel
theorem d_WR_find_29 : decode b_WR_find 29 = .ok (.invokevirtual 99, 3) := by decide +kernel
theorem d_WR_find_32 : decode b_WR_find 32 = .ok (.goto 4, 3) := by decide +kernel
theorem d_WR_find_35 : decode b_WR_find 35 = .ok (.iconst (-1), 1) := by decide +kernel
theorem d_WR_find_36 : decode b_WR_find 36 = .ok (.ireturn, 1) := by decide +kernel
theorem d_WR_argument_0 : decode b_WR_argument 0 = .ok (.aload_n 0, 1) := by decide +kernel
theorem d_WR_argument_1 : decode b_WR_argument 1 = .ok (.getfield 105, 3) := by decide +kernel
theorem d_WR_argument_4 : decode b_WR_argument 4 = .ok (.bipush 8, 2) := by decide +kernel
theorem d_WR_argument_6 : decode b_WR_argument 6 = .ok (.if_icmp .lt 13, 3) := by decide +kernel
theorem d_WR_argument_9 : decode b_WR_argument 9 = .ok (.new 52, 3) := by decide +kernel
theorem d_WR_argument_12 : decode b_WR_argument 12 = .ok (.dup, 1) := by decide +kernel
theorem d_WR_argument_13 : decode b_WR_argument 13 = .ok (.ldc 108, 2) := by decide +kernel
theorem d_WR_argument_15 : decode b_WR_argument 15 = .ok (.invokespecial 56, 3) := by decide +kernel
theorem d_WR_argument_18 : decode b_WR_argument 18 = .ok (.athrow, 1) := by decide +kernel
theorem d_WR_argument_19 : decode b_WR_argument 19 = .ok (.aload_n 0, 1) := by decide +kernel
theorem d_WR_argument_20 : decode b_WR_argument 20 = .ok (.getfield 13, 3) := by decide +kernel
theorem d_WR_argument_23 : decode b_WR_argument 23 = .ok (.aload_n 0, 1) := by decide +kernel
theorem d_WR_argument_24 : decode b_WR_argument 24 = .ok (.getfield 105, 3) := by decide +kernel
theorem d_WR_argument_27 : decode b_WR_argument 27 = .ok (.lload_n 1, 1) := by decide +kernel
theorem d_WR_argument_28 : decode b_WR_argument 28 = .ok (.lastore, 1) := by decide +kernel
theorem d_WR_argument_29 : decode b_WR_argument 29 = .ok (.aload_n 0, 1) := by decide +kernel
theorem d_WR_argument_30 : decode b_WR_argument 30 = .ok (.dup, 1) := by decide +kernel
theorem d_WR_argument_31 : decode b_WR_argument 31 = .ok (.getfield 105, 3) := by decide +kernel
theorem d_WR_argument_34 : decode b_WR_argument 34 = .ok (.iconst 1, 1) := by decide +kernel
theorem d_WR_argument_35 : decode b_WR_argument 35 = .ok (.iadd, 1) := by decide +kernel
theorem d_WR_argument_36 : decode b_WR_argument 36 = .ok (.putfield 105, 3) := by decide +kernel
theorem d_WR_argument_39 : decode b_WR_argument 39 = .ok (.aload_n 0, 1) := by decide +kernel
theorem d_WR_argument_40 : decode b_WR_argument 40 = .ok (.getfield 105, 3) := by decide +kernel
theorem d_WR_argument_43 : decode b_WR_argument 43 = .ok (.ireturn, 1) := by decide +kernel
theorem d_WR_global_0 : decode b_WR_global 0 = .ok (.aload_n 0, 1) := by decide +kernel
theorem d_WR_global_1 : decode b_WR_global 1 = .ok (.invokevirtual 110, 3) := by decide +kernel
theorem d_WR_global_4 : decode b_WR_global 4 = .ok (.iload_n 1, 1) := by decide +kernel
theorem d_WR_global_5 : decode b_WR_global 5 = .ok (.aload_n 0, 1) := by decide +kernel
theorem d_WR_global_6 : decode b_WR_global 6 = .ok (.getfield 41, 3) := by decide +kernel
theorem d_WR_global_9 : decode b_WR_global 9 = .ok (.getfield 136, 3) := by decide +kernel
theorem d_WR_global_12 : decode b_WR_global 12 = .ok (.invokestatic 113, 3) := by decide +kernel
theorem d_WR_global_15 : decode b_WR_global 15 = .ok (.aload_n 0, 1) := by decide +kernel
theorem d_WR_global_16 : decode b_WR_global 16 = .ok (.getfield 34, 3) := by decide +kernel
theorem d_WR_global_19 : decode b_WR_global 19 = .ok (.getfield 139, 3) := by decide +kernel
theorem d_WR_global_22 : decode b_WR_global 22 = .ok (.iload_n 1, 1) := by decide +kernel
theorem d_WR_global_23 : decode b_WR_global 23 = .ok (.laload, 1) := by decide +kernel
theorem d_WR_global_24 : decode b_WR_global 24 = .ok (.lreturn, 1) := by decide +kernel
theorem d_WR_memory_0 : decode b_WR_memory 0 = .ok (.aload_n 0, 1) := by decide +kernel
theorem d_WR_memory_1 : decode b_WR_memory 1 = .ok (.invokevirtual 110, 3) := by decide +kernel
theorem d_WR_memory_4 : decode b_WR_memory 4 = .ok (.iload_n 1, 1) := by decide +kernel
theorem d_WR_memory_5 : decode b_WR_memory 5 = .ok (.aload_n 0, 1) := by decide +kernel
theorem d_WR_memory_6 : decode b_WR_memory 6 = .ok (.getfield 34, 3) := by decide +kernel
theorem d_WR_memory_9 : decode b_WR_memory 9 = .ok (.getfield 142, 3) := by decide +kernel
theorem d_WR_memory_12 : decode b_WR_memory 12 = .ok (.ldc 145, 2) := by decide +kernel
theorem d_WR_memory_14 : decode b_WR_memory 14 = .ok (.imul, 1) := by decide +kernel
theorem d_WR_memory_15 : decode b_WR_memory 15 = .ok (.invokestatic 113, 3) := by decide +kernel
theorem d_WR_memory_18 : decode b_WR_memory 18 = .ok (.aload_n 0, 1) := by decide +kernel
theorem d_WR_memory_19 : decode b_WR_memory 19 = .ok (.getfield 34, 3) := by decide +kernel
theorem d_WR_memory_22 : decode b_WR_memory 22 = .ok (.getfield 146, 3) := by decide +kernel
theorem d_WR_memory_25 : decode b_WR_memory 25 = .ok (.iload_n 1, 1) := by decide +kernel
theorem d_WR_memory_26 : decode b_WR_memory 26 = .ok (.baload, 1) := by decide +kernel
theorem d_WR_memory_27 : decode b_WR_memory 27 = .ok (.sipush 255, 3) := by decide +kernel
theorem d_WR_memory_30 : decode b_WR_memory 30 = .ok (.iand, 1) := by decide +kernel
theorem d_WR_memory_31 : decode b_WR_memory 31 = .ok (.ireturn, 1) := by decide +kernel
theorem d_WR_count_0 : decode b_WR_count 0 = .ok (.iload_n 1, 1) := by decide +kernel
theorem d_WR_count_1 : decode b_WR_count 1 = .ok (.tableswitch 123 0 6 #[43, 48, 53, 72, 91, 110, 118], 43) := by decide +kernel
theorem d_WR_count_44 : decode b_WR_count 44 = .ok (.aload_n 0, 1) := by decide +kernel
theorem d_WR_count_45 : decode b_WR_count 45 = .ok (.getfield 48, 3) := by decide +kernel
theorem d_WR_count_48 : decode b_WR_count 48 = .ok (.ireturn, 1) := by decide +kernel
theorem d_WR_count_49 : decode b_WR_count 49 = .ok (.aload_n 0, 1) := by decide +kernel
theorem d_WR_count_50 : decode b_WR_count 50 = .ok (.getfield 76, 3) := by decide +kernel
theorem d_WR_count_53 : decode b_WR_count 53 = .ok (.ireturn, 1) := by decide +kernel
theorem d_WR_count_54 : decode b_WR_count 54 = .ok (.aload_n 0, 1) := by decide +kernel
theorem d_WR_count_55 : decode b_WR_count 55 = .ok (.getfield 84, 3) := by decide +kernel
theorem d_WR_count_58 : decode b_WR_count 58 = .ok (.ifCond .eq 13, 3) := by decide +kernel
theorem d_WR_count_61 : decode b_WR_count 61 = .ok (.aload_n 0, 1) := by decide +kernel
theorem d_WR_count_62 : decode b_WR_count 62 = .ok (.getfield 41, 3) := by decide +kernel
theorem d_WR_count_65 : decode b_WR_count 65 = .ok (.getfield 92, 3) := by decide +kernel
theorem d_WR_count_68 : decode b_WR_count 68 = .ok (.goto 4, 3) := by decide +kernel
theorem d_WR_count_71 : decode b_WR_count 71 = .ok (.iconst (-1), 1) := by decide +kernel
theorem d_WR_count_72 : decode b_WR_count 72 = .ok (.ireturn, 1) := by decide +kernel
theorem d_WR_count_73 : decode b_WR_count 73 = .ok (.aload_n 0, 1) := by decide +kernel
theorem d_WR_count_74 : decode b_WR_count 74 = .ok (.getfield 84, 3) := by decide +kernel
theorem d_WR_count_77 : decode b_WR_count 77 = .ok (.ifCond .eq 13, 3) := by decide +kernel
theorem d_WR_count_80 : decode b_WR_count 80 = .ok (.aload_n 0, 1) := by decide +kernel
theorem d_WR_count_81 : decode b_WR_count 81 = .ok (.getfield 41, 3) := by decide +kernel
theorem d_WR_count_84 : decode b_WR_count 84 = .ok (.getfield 136, 3) := by decide +kernel
theorem d_WR_count_87 : decode b_WR_count 87 = .ok (.goto 4, 3) := by decide +kernel
theorem d_WR_count_90 : decode b_WR_count 90 = .ok (.iconst (-1), 1) := by decide +kernel
theorem d_WR_count_91 : decode b_WR_count 91 = .ok (.ireturn, 1) := by decide +kernel
theorem d_WR_count_92 : decode b_WR_count 92 = .ok (.aload_n 0, 1) := by decide +kernel
theorem d_WR_count_93 : decode b_WR_count 93 = .ok (.getfield 84, 3) := by decide +kernel
theorem d_WR_count_96 : decode b_WR_count 96 = .ok (.ifCond .eq 13, 3) := by decide +kernel
theorem d_WR_count_99 : decode b_WR_count 99 = .ok (.aload_n 0, 1) := by decide +kernel
theorem d_WR_count_100 : decode b_WR_count 100 = .ok (.getfield 34, 3) := by decide +kernel
theorem d_WR_count_103 : decode b_WR_count 103 = .ok (.getfield 142, 3) := by decide +kernel
theorem d_WR_count_106 : decode b_WR_count 106 = .ok (.goto 4, 3) := by decide +kernel
theorem d_WR_count_109 : decode b_WR_count 109 = .ok (.iconst (-1), 1) := by decide +kernel
theorem d_WR_count_110 : decode b_WR_count 110 = .ok (.ireturn, 1) := by decide +kernel
theorem d_WR_count_111 : decode b_WR_count 111 = .ok (.aload_n 0, 1) := by decide +kernel
theorem d_WR_count_112 : decode b_WR_count 112 = .ok (.getfield 34, 3) := by decide +kernel
theorem d_WR_count_115 : decode b_WR_count 115 = .ok (.getfield 149, 3) := by decide +kernel
theorem d_WR_count_118 : decode b_WR_count 118 = .ok (.ireturn, 1) := by decide +kernel
theorem d_WR_count_119 : decode b_WR_count 119 = .ok (.aload_n 0, 1) := by decide +kernel
theorem d_WR_count_120 : decode b_WR_count 120 = .ok (.getfield 105, 3) := by decide +kernel
theorem d_WR_count_123 : decode b_WR_count 123 = .ok (.ireturn, 1) := by decide +kernel
theorem d_WR_count_124 : decode b_WR_count 124 = .ok (.new 63, 3) := by decide +kernel
theorem d_WR_count_127 : decode b_WR_count 127 = .ok (.dup, 1) := by decide +kernel
theorem d_WR_count_128 : decode b_WR_count 128 = .ok (.ldc 152, 2) := by decide +kernel
theorem d_WR_count_130 : decode b_WR_count 130 = .ok (.invokespecial 67, 3) := by decide +kernel
theorem d_WR_count_133 : decode b_WR_count 133 = .ok (.athrow, 1) := by decide +kernel
theorem m_1 : Cond.initialized R_WR ∈ lw_good := lw_in (List.mem_append_right _ (List.mem_of_getElem? (i := 1) (by decide +kernel))) (by decide +kernel)
theorem m_542 : Cond.methodLink R_WR 59 y_WR_putInt ∈ lw_good := lw_in (List.mem_append_right _ (List.mem_of_getElem? (i := 542) (by decide +kernel))) (by decide +kernel)
theorem m_544 : Cond.instanceMethod y_WR_putInt ∈ lw_good := lw_in (List.mem_append_right _ (List.mem_of_getElem? (i := 544) (by decide +kernel))) (by decide +kernel)
theorem ms_WR_putInt : Cond.selects R_WR y_WR_putInt y_WR_putInt ∈ lw_good := lw_in (by decide +kernel) (by decide +kernel)
theorem m_545 : Cond.code y_WR_putInt b_WR_putInt 3 none ∈ lw_good := lw_in (List.mem_append_right _ (List.mem_of_getElem? (i := 545) (by decide +kernel))) (by decide +kernel)
theorem m_472 : Cond.classLink R_WR 52 "java/lang/IndexOutOfBoundsException" ∈ lw_good := lw_in (List.mem_append_right _ (List.mem_of_getElem? (i := 472) (by decide +kernel))) (by decide +kernel)
theorem m_473 : Cond.instantiable "java/lang/IndexOutOfBoundsException" 6 ∈ lw_good := lw_in (List.mem_append_right _ (List.mem_of_getElem? (i := 473) (by decide +kernel))) (by decide +kernel)
theorem m_17 : Cond.initialized "java/lang/IndexOutOfBoundsException" ∈ lw_good := lw_in (List.mem_append_right _ (List.mem_of_getElem? (i := 17) (by decide +kernel))) (by decide +kernel)
theorem m_372 : Cond.fieldLink R_WR 95 "WaferRunner$Wafer" "exports" "LWaferRunner$Exports;" ∈ lw_good := lw_in (List.mem_append_right _ (List.mem_of_getElem? (i := 372) (by decide +kernel))) (by decide +kernel)
theorem m_456 : Cond.methodLink R_WR 99 y_Ex_functionNamed ∈ lw_good := lw_in (List.mem_append_right _ (List.mem_of_getElem? (i := 456) (by decide +kernel))) (by decide +kernel)
theorem m_457 : Cond.instanceMethod y_Ex_functionNamed ∈ lw_good := lw_in (List.mem_append_right _ (List.mem_of_getElem? (i := 457) (by decide +kernel))) (by decide +kernel)
theorem m_458 : Cond.selects R_Ex y_Ex_functionNamed y_Ex_functionNamed ∈ lw_good := lw_in (List.mem_append_right _ (List.mem_of_getElem? (i := 458) (by decide +kernel))) (by decide +kernel)
theorem m_459 : Cond.code y_Ex_functionNamed b_Ex_functionNamed 4 (some .int) ∈ lw_good := lw_in (List.mem_append_right _ (List.mem_of_getElem? (i := 459) (by decide +kernel))) (by decide +kernel)
theorem m_421 : Cond.fieldLink R_WR 105 "WaferRunner" "argumentCount" "I" ∈ lw_good := lw_in (List.mem_append_right _ (List.mem_of_getElem? (i := 421) (by decide +kernel))) (by decide +kernel)
theorem m_920 : Cond.methodLink R_WR 110 y_WR_requireModule ∈ lw_good := lw_in (List.mem_append_right _ (List.mem_of_getElem? (i := 920) (by decide +kernel))) (by decide +kernel)
theorem m_922 : Cond.instanceMethod y_WR_requireModule ∈ lw_good := lw_in (List.mem_append_right _ (List.mem_of_getElem? (i := 922) (by decide +kernel))) (by decide +kernel)
theorem ms_WR_requireModule : Cond.selects R_WR y_WR_requireModule y_WR_requireModule ∈ lw_good := lw_in (by decide +kernel) (by decide +kernel)
theorem m_923 : Cond.code y_WR_requireModule b_WR_requireModule 1 none ∈ lw_good := lw_in (List.mem_append_right _ (List.mem_of_getElem? (i := 923) (by decide +kernel))) (by decide +kernel)
theorem m_355 : Cond.fieldLink R_WR 136 "WaferRunner$Wafer" "globalCount" "I" ∈ lw_good := lw_in (List.mem_append_right _ (List.mem_of_getElem? (i := 355) (by decide +kernel))) (by decide +kernel)
theorem m_940 : Cond.methodLink R_WR 113 y_WR_requireRange ∈ lw_good := lw_in (List.mem_append_right _ (List.mem_of_getElem? (i := 940) (by decide +kernel))) (by decide +kernel)
theorem m_941 : Cond.static y_WR_requireRange ∈ lw_good := lw_in (List.mem_append_right _ (List.mem_of_getElem? (i := 941) (by decide +kernel))) (by decide +kernel)
theorem m_942 : Cond.code y_WR_requireRange b_WR_requireRange 2 none ∈ lw_good := lw_in (List.mem_append_right _ (List.mem_of_getElem? (i := 942) (by decide +kernel))) (by decide +kernel)
theorem m_163 : Cond.fieldLink R_WR 139 "WaferRunner$Machine" "globals" "[J" ∈ lw_good := lw_in (List.mem_append_right _ (List.mem_of_getElem? (i := 163) (by decide +kernel))) (by decide +kernel)
theorem m_161 : Cond.fieldLink R_WR 142 "WaferRunner$Machine" "pages" "I" ∈ lw_good := lw_in (List.mem_append_right _ (List.mem_of_getElem? (i := 161) (by decide +kernel))) (by decide +kernel)
theorem m_1115 : Cond.constant R_WR 145 65536 ∈ lw_good := lw_in (List.mem_append_right _ (List.mem_of_getElem? (i := 1115) (by decide +kernel))) (by decide +kernel)
theorem m_158 : Cond.fieldLink R_WR 146 "WaferRunner$Machine" "bytes" "[B" ∈ lw_good := lw_in (List.mem_append_right _ (List.mem_of_getElem? (i := 158) (by decide +kernel))) (by decide +kernel)
theorem m_428 : Cond.fieldLink R_WR 76 "WaferRunner" "reason" "I" ∈ lw_good := lw_in (List.mem_append_right _ (List.mem_of_getElem? (i := 428) (by decide +kernel))) (by decide +kernel)
theorem m_326 : Cond.fieldLink R_WR 92 "WaferRunner$Wafer" "functionCount" "I" ∈ lw_good := lw_in (List.mem_append_right _ (List.mem_of_getElem? (i := 326) (by decide +kernel))) (by decide +kernel)
theorem m_165 : Cond.fieldLink R_WR 149 "WaferRunner$Machine" "steps" "I" ∈ lw_good := lw_in (List.mem_append_right _ (List.mem_of_getElem? (i := 165) (by decide +kernel))) (by decide +kernel)
theorem tx_54 : (R_WR, 54, "the tape would be too long") ∈ xtexts := by decide +kernel
theorem tx_65 : (R_WR, 65, "not a length that the tape can keep") ∈ xtexts := by decide +kernel
theorem tx_108 : (R_WR, 108, "too many arguments") ∈ xtexts := by decide +kernel
theorem tx_152 : (R_WR, 152, "no such count") ∈ xtexts := by decide +kernel
theorem at_R_WR_56 : ∀ w ∈ Bundle.ownAtoms R_WR 56 "java/lang/IndexOutOfBoundsException" ["java/lang/RuntimeException", "java/lang/Exception"], xE_in w := by unfold xE_in; decide +kernel
set_option maxRecDepth 100000 in
abbrev pq_WR_end (aWR : Nat) (aTp : Nat) (aAr : Nat) (aRd : Nat) (aVa : Nat) (aMa : Nat) (aWa : Nat) (aW2 : Nat) (R9 : Out (KWr × Nat) (KWr × Int)) := (fun (o : Outcome) (w1 : va_W) => ozp R9 (fun x9 => (KWr.Ok x9.1 ∧ R32 x9.2) ∧ o = .returned (some (.int (iI x9.2))) ∧ w1 = [(aWR, .inr (0, [.ref aTp, .int (iI x9.1.tapeLength), .ref aAr, .int (iI x9.1.argumentCount), .ref aRd, .ref aVa, .ref aMa, .ref aWa, .ref aW2, .int (bI x9.1.loaded), .int (iI x9.1.reason)]))]) (fun t9 => ∃ x9e : Nat, (KWr.Ok t9.1) ∧ o = .threw x9e ∧ w1 = [(aWR, .inr (0, [.ref aTp, .int (iI t9.1.tapeLength), .ref aAr, .int (iI t9.1.argumentCount), .ref aRd, .ref aVa, .ref aMa, .ref aWa, .ref aW2, .int (bI t9.1.loaded), .int (iI t9.1.reason)])), (x9e, .inr (t9.2, []))]))
set_option maxHeartbeats 8000000 in
set_option maxRecDepth 100000 in
theorem k_WR_end (l : Launch) (htr : l.stackTraces = false) (G : va_G) (cB cI cJ cZ cG : ClassId) (aWR : Nat) (aTp : Nat) (aAr : Nat) (aRd : Nat) (aVa : Nat) (aMa : Nat) (aWa : Nat) (aW2 : Nat) (zWr : KWr) (hzWr : KWr.Ok zWr) (v_n : Int) (hv_n : R32 v_n) (R9 : Out (KWr × Nat) (KWr × Int)) (hf : f_WR_end zWr v_n = R9) (hnb : R9 ≠ .bad) (sz : Nat) : MetX l y_WR_end (wx y_WR_end b_WR_end 2 (some .int)) { frames := 6, cells := 1, slots := 6, locals := 90 } (XP G classes (xtys cB cI cJ cZ cG) xE [.ref aWR, .int (iI v_n)] [(aWR, .inr (0, [.ref aTp, .int (iI zWr.tapeLength), .ref aAr, .int (iI zWr.argumentCount), .ref aRd, .ref aVa, .ref aMa, .ref aWa, .ref aW2, .int (bI zWr.loaded), .int (iI zWr.reason)]))] sz) (XQ G classes (va_A [(aWR, .inr (0, [.ref aTp, .int (iI zWr.tapeLength), .ref aAr, .int (iI zWr.argumentCount), .ref aRd, .ref aVa, .ref aMa, .ref aWa, .ref aW2, .int (bI zWr.loaded), .int (iI zWr.reason)]))] sz) (fun o w1 => ozp R9 (fun x9 => (KWr.Ok x9.1 ∧ R32 x9.2) ∧ o = .returned (some (.int (iI x9.2))) ∧ w1 = [(aWR, .inr (0, [.ref aTp, .int (iI x9.1.tapeLength), .ref aAr, .int (iI x9.1.argumentCount), .ref aRd, .ref aVa, .ref aMa, .ref aWa, .ref aW2, .int (bI x9.1.loaded), .int (iI x9.1.reason)]))]) (fun t9 => ∃ x9e : Nat, (KWr.Ok t9.1) ∧ o = .threw x9e ∧ w1 = [(aWR, .inr (0, [.ref aTp, .int (iI t9.1.tapeLength), .ref aAr, .int (iI t9.1.argumentCount), .ref aRd, .ref aVa, .ref aMa, .ref aWa, .ref aW2, .int (bI t9.1.loaded), .int (iI t9.1.reason)])), (x9e, .inr (t9.2, []))]))) 1 6 (va_A [(aWR, .inr (0, [.ref aTp, .int (iI zWr.tapeLength), .ref aAr, .int (iI zWr.argumentCount), .ref aRd, .ref aVa, .ref aMa, .ref aWa, .ref aW2, .int (bI zWr.loaded), .int (iI zWr.reason)]))] sz) := by
  refine ex_ofW (cc := b_WR_end) (maxL := 2) (ret := (some .int)) (by decide) rfl ?_
  intro p e s m args below meth c s₁ B hml hno hv
  obtain ⟨rfl, hsz, hP, hK, hD0, hE⟩ := hv
  have hx := B.exec
  have hb := B.bytes
  have hr := B.returns
  have hts : ∀ w ∈ lw_good, w.before _ s = true := fun w h => atoms_spec (ws := wx y_WR_end b_WR_end 2 (some .int)) B.pre w (List.mem_cons_of_mem _ h)
  have hown : s.vm.findClass R_WR = some m.cls := findClass_of_methodNamed B.named
  have hlocks := B.notSynchronized
  have htr9 : e.platform.stackTraces = false := by rw [B.admits.platform]; exact htr
  subst hsz
  have hNS := xx_nostat hP
  have hD := hD0.self (sz := s.heap.size)
  generalize hAe : va_A [(aWR, .inr (0, [.ref aTp, .int (iI zWr.tapeLength), .ref aAr, .int (iI zWr.argumentCount), .ref aRd, .ref aVa, .ref aMa, .ref aWa, .ref aW2, .int (bI zWr.loaded), .int (iI zWr.reason)]))] s.heap.size = A at hD hE hNS ⊢
  have hA : ∀ q : Nat, s.heap.size ≤ q → A q := fun q h => by rw [← hAe]; exact Or.inr h
  have hS : va_S A s.heap s.heap [] := va_S.rf
  have hl := lv_entry ([.ref aWR, .int (iI v_n)]) (n := 2) (Nat.le_of_ble_eq_true rfl)
  rw [lg_entry_eq]
  generalize (lg_sl ([.ref aWR, .int (iI v_n)]) ++ List.replicate (2 - (lg_sl ([.ref aWR, .int (iI v_n)])).length) Slot.unset).toArray = ls at hl ⊢
  have hl : lv_has ls 2 [(0, .ref aWR), (1, .int (iI v_n))] := hl
  unfold f_WR_end at hf
  refine lv_iload_n hx hb d_WR_end_0 rfl (lv_at hl 1 rfl) ?_
  refine jpE hf (fun K_2 hK_2 hf9 => ?_)
  replace hf := hf9
  clear hf9
  have hJK_2 : ∀ (y_1 : Unit), True → K_2 y_1 = R9 → ∀ (H : Heap) (locs : List Loc), (fun w9 => va_P G classes w9 H → va_D A w9 → va_S A s.heap H locs → ∀ (ls : Array Slot), lv_has ls 2 [(0, .ref aWR), (1, .int (iI v_n))] → W p l e (headSpec (wx y_WR_end b_WR_end 2 (some .int)) { frames := 6, cells := 1, slots := 6, locals := 90 }).room s m ([.ref aWR, .int (iI v_n)] : List Value).toArray below meth c H locs 0 0 (MX below (XQ G classes A (pq_WR_end aWR aTp aAr aRd aVa aMa aWa aW2 R9)) ([.ref aWR, .int (iI v_n)] : List Value).toArray s 1 6 A) (F0 m 12 ls [])) [(aWR, .inr (0, [.ref aTp, .int (iI zWr.tapeLength), .ref aAr, .int (iI zWr.argumentCount), .ref aRd, .ref aVa, .ref aMa, .ref aWa, .ref aW2, .int (bI zWr.loaded), .int (iI zWr.reason)]))] := by
    intro y_1 hy_1 hf H_2 locs_2 hP_2 hD_2 hS_2 ls hl
    clear hS hD hP
    replace hf := (congrFun hK_2 y_1).symm.trans hf
    clear hK_2
    obtain ⟨qs, hZ⟩ := xE_text hE tx_65
    refine xx_throwNew (cls := "java/lang/IllegalArgumentException") (names := ["java/lang/RuntimeException", "java/lang/Exception"]) (own := R_WR) hx htr9 hb hml hown (hts _ m_554) (hts _ m_555) (hts _ m_18) hZ (xE_atoms hE hts at_R_WR_67) (by decide +kernel) (by decide +kernel) hK 14 rfl hP_2 hD_2 hS_2 hA hNS hl.1 d_WR_end_12 d_WR_end_15 d_WR_end_16 d_WR_end_18 d_WR_end_21 (Nat.le_of_ble_eq_true rfl) (Nat.le_of_ble_eq_true rfl) (Nat.le_of_ble_eq_true rfl) (Nat.le_of_ble_eq_true rfl) (fun x_3 H_2 locs_2 hP_2 hD_2 hS_2 => ?_)
    have hQ9 : (fun w9 => va_P G classes w9 H_2 ∧ va_D A w9) [(aWR, .inr (0, [.ref aTp, .int (iI zWr.tapeLength), .ref aAr, .int (iI zWr.argumentCount), .ref aRd, .ref aVa, .ref aMa, .ref aWa, .ref aW2, .int (bI zWr.loaded), .int (iI zWr.reason)])), (x_3, .inr (14, []))] := ⟨hP_2, hD_2⟩
    clear hP_2 hD_2
    obtain ⟨hP_2, hD_2⟩ := hQ9
    exact ex_out rfl rfl rfl (hno _) hlocks (fun t ht hW => ⟨⟨_, ozt hf ⟨x_3, hzWr, rfl, rfl⟩, by rw [ht]; exact hP_2, hD_2⟩, hS_2.F ht⟩) hS_2.2.2
  clear hK_2
  refine lv_if_lt (tgt := 12) hx hb d_WR_end_1 (by decide) (fun c_4 => ?_) (fun c_4 => ?_)
  · have c_4 := ((zv_lt (iI_t hv_n) zero_v)).mp c_4
    replace hf := ifp c_4 hf
    exact hJK_2 () trivial hf _ _ hP hD hS _ (lv_sub hl [0, 1] rfl)
  · have c_4 := (fun q9 => c_4 (((zv_lt (iI_t hv_n) zero_v)).mpr q9))
    replace hf := ifn c_4 hf
    refine lv_iload_n hx hb d_WR_end_4 rfl (lv_at hl 1 rfl) ?_
    refine lv_aload_n hx hb d_WR_end_5 rfl (lv_at hl 0 rfl) ?_
    refine va_get (D := G) (ci := 0) (v := .int (iI zWr.tapeLength)) (C := R_WR) (T := F_WR) (N := 11) hx hb hts i_WR hown hK hP 0 rfl rfl 1 (by decide) (hts _ m_419) (fun _ h9 => h9) rfl d_WR_end_6 ?_
    refine lv_icmp_le (tgt := 22) hx hb d_WR_end_9 (by decide) (fun c_5 => ?_) (fun c_5 => ?_)
    · have c_5 := ((zv_le (iI_t hv_n) (iI_t hzWr.tapeLength))).mp c_5
      replace hf := ifp c_5 hf
      refine lv_aload_n hx hb d_WR_end_22 rfl (lv_at hl 0 rfl) ?_
      refine lv_iload_n hx hb d_WR_end_23 rfl (lv_at hl 1 rfl) ?_
      refine va_put (D := G) (ci := 0) (v := .int (iI v_n)) (ty := .int) (C := R_WR) (T := F_WR) (N := 11) hx hb hts i_WR t_WR t_WR_ok n_WR hown hK hP hD hS 0 rfl rfl 1 (by decide) (hts _ m_419) (fun _ h9 => h9) rfl (by decide +kernel) rfl rfl (Nat.le_of_ble_eq_true rfl) d_WR_end_24 (fun H_3 locs_3 hP_3 hD_3 hS_3 => ?_)
      clear hS hD hP
      have hQ9 : (fun w9 => va_P G classes w9 H_3 ∧ va_D A w9) [(aWR, .inr (0, [.ref aTp, .int (iI v_n), .ref aAr, .int (iI zWr.argumentCount), .ref aRd, .ref aVa, .ref aMa, .ref aWa, .ref aW2, .int (bI zWr.loaded), .int (iI zWr.reason)]))] := ⟨hP_3, hD_3⟩
      clear hP_3 hD_3
      obtain ⟨hP_3, hD_3⟩ := hQ9
      refine lv_iload_n hx hb d_WR_end_27 rfl (lv_at hl 1 rfl) ?_
      refine W.widen (k := 1) (n := 6) (Nat.le_of_ble_eq_true rfl) (Nat.le_of_ble_eq_true rfl) ?_
      exact ex_W (fun _ h => ex_mq h) (W.iret (v := iI v_n) hx hb hr (fun t ht hW => ⟨⟨_, ozr hf ⟨⟨(KWr.Ok.mk hv_n hzWr.argumentCount hzWr.reason : KWr.Ok (KWr.mk v_n zWr.argumentCount zWr.loaded zWr.reason)), hv_n⟩, rfl, rfl⟩, by rw [ht]; exact hP_3, hD_3⟩, hS_3.F ht⟩) hS_3.2.2 d_WR_end_28)
    · have c_5 := (fun q9 => c_5 (((zv_le (iI_t hv_n) (iI_t hzWr.tapeLength))).mpr q9))
      replace hf := ifn c_5 hf
      exact hJK_2 () trivial hf _ _ hP hD hS _ (lv_sub hl [0, 1] rfl)
set_option maxRecDepth 100000 in
abbrev pq_WR_find (cB cI : ClassId) (aTp : Nat) (aEx : Nat) (aEx_kinds : Nat) (aEx_indices : Nat) (aEx_nameLengths : Nat) (aEx_names : Nat) (aWa : Nat) (aWa_parameterCounts : Nat) (aWa_parameters : Nat) (aWa_results : Nat) (aWa_functionTypes : Nat) (aWa_starts : Nat) (aWa_localCounts : Nat) (aWa_locals : Nat) (aWa_globalTypes : Nat) (aWa_globalsChange : Nat) (aWa_initialTypes : Nat) (aWa_initialValues : Nat) (aCo : Nat) (aWR : Nat) (aAr : Nat) (aRd : Nat) (aVa : Nat) (aMa : Nat) (aW2 : Nat) (zSo : KSo) (zEx : KEx) (zW1 : KW1) (zW3 : KW3) (zW5 : KW5) (zW6 : KW6) (R9 : Out Empty (KWr × Int)) := (fun (o : Outcome) (w1 : va_W) => ozp R9 (fun x9 => (KWr.Ok x9.1 ∧ R32 x9.2) ∧ o = .returned (some (.int (iI x9.2))) ∧ w1 = [(aTp, .inl (cB, 2000, .inl zSo.bytes)), (aEx, .inr (8, [.int (iI zEx.size), .ref aEx_kinds, .ref aEx_indices, .ref aEx_nameLengths, .ref aEx_names])), (aEx_kinds, .inl (cI, 40, .inl (fun k9 => iI (zEx.kinds k9)))), (aEx_indices, .inl (cI, 40, .inl (fun k9 => iI (zEx.indices k9)))), (aEx_nameLengths, .inl (cI, 40, .inl (fun k9 => iI (zEx.nameLengths k9)))), (aEx_names, .inl (cB, 1200, .inl zEx.names)), (aWa, .inr (7, [.int (iI zW1.typeCount), .ref aWa_parameterCounts, .ref aWa_parameters, .ref aWa_results, .int (iI zW3.functionCount), .ref aWa_functionTypes, .ref aWa_starts, .ref aWa_localCounts, .ref aWa_locals, .int (bI zW5.hasMemory), .long zW5.pagesAtFirst, .long zW5.pagesMost, .int (iI zW6.globalCount), .ref aWa_globalTypes, .ref aWa_globalsChange, .ref aWa_initialTypes, .ref aWa_initialValues, .ref aEx, .ref aCo])), (aWR, .inr (0, [.ref aTp, .int (iI x9.1.tapeLength), .ref aAr, .int (iI x9.1.argumentCount), .ref aRd, .ref aVa, .ref aMa, .ref aWa, .ref aW2, .int (bI x9.1.loaded), .int (iI x9.1.reason)]))]) (fun _ => False))
set_option maxHeartbeats 8000000 in
set_option maxRecDepth 100000 in
theorem k_WR_find (l : Launch) (htr : l.stackTraces = false) (G : va_G) (cB cI cJ cZ cG : ClassId) (aTp : Nat) (aEx : Nat) (aEx_kinds : Nat) (aEx_indices : Nat) (aEx_nameLengths : Nat) (aEx_names : Nat) (aWa : Nat) (aWa_parameterCounts : Nat) (aWa_parameters : Nat) (aWa_results : Nat) (aWa_functionTypes : Nat) (aWa_starts : Nat) (aWa_localCounts : Nat) (aWa_locals : Nat) (aWa_globalTypes : Nat) (aWa_globalsChange : Nat) (aWa_initialTypes : Nat) (aWa_initialValues : Nat) (aCo : Nat) (aWR : Nat) (aAr : Nat) (aRd : Nat) (aVa : Nat) (aMa : Nat) (aW2 : Nat) (zSo : KSo) (zEx : KEx) (zW1 : KW1) (zW3 : KW3) (zW5 : KW5) (zW6 : KW6) (zWr : KWr) (hzSo : KSo.Ok zSo) (hzEx : KEx.Ok zEx) (hzW1 : KW1.Ok zW1) (hzW3 : KW3.Ok zW3) (hzW5 : KW5.Ok zW5) (hzW6 : KW6.Ok zW6) (hzWr : KWr.Ok zWr) (fu : Nat) (R9 : Out Empty (KWr × Int)) (hf : f_WR_find fu zSo zEx zWr = R9) (hnb : R9 ≠ .bad) (sz : Nat) : MetX l y_WR_find (wx y_WR_find b_WR_find 2 (some .int)) { frames := 2, cells := 0, slots := 0, locals := 48 } (XP G classes (xtys cB cI cJ cZ cG) xE [.ref aWR] [(aTp, .inl (cB, 2000, .inl zSo.bytes)), (aEx, .inr (8, [.int (iI zEx.size), .ref aEx_kinds, .ref aEx_indices, .ref aEx_nameLengths, .ref aEx_names])), (aEx_kinds, .inl (cI, 40, .inl (fun k9 => iI (zEx.kinds k9)))), (aEx_indices, .inl (cI, 40, .inl (fun k9 => iI (zEx.indices k9)))), (aEx_nameLengths, .inl (cI, 40, .inl (fun k9 => iI (zEx.nameLengths k9)))), (aEx_names, .inl (cB, 1200, .inl zEx.names)), (aWa, .inr (7, [.int (iI zW1.typeCount), .ref aWa_parameterCounts, .ref aWa_parameters, .ref aWa_results, .int (iI zW3.functionCount), .ref aWa_functionTypes, .ref aWa_starts, .ref aWa_localCounts, .ref aWa_locals, .int (bI zW5.hasMemory), .long zW5.pagesAtFirst, .long zW5.pagesMost, .int (iI zW6.globalCount), .ref aWa_globalTypes, .ref aWa_globalsChange, .ref aWa_initialTypes, .ref aWa_initialValues, .ref aEx, .ref aCo])), (aWR, .inr (0, [.ref aTp, .int (iI zWr.tapeLength), .ref aAr, .int (iI zWr.argumentCount), .ref aRd, .ref aVa, .ref aMa, .ref aWa, .ref aW2, .int (bI zWr.loaded), .int (iI zWr.reason)]))] sz) (XQ G classes (va_A [(aTp, .inl (cB, 2000, .inl zSo.bytes)), (aEx, .inr (8, [.int (iI zEx.size), .ref aEx_kinds, .ref aEx_indices, .ref aEx_nameLengths, .ref aEx_names])), (aEx_kinds, .inl (cI, 40, .inl (fun k9 => iI (zEx.kinds k9)))), (aEx_indices, .inl (cI, 40, .inl (fun k9 => iI (zEx.indices k9)))), (aEx_nameLengths, .inl (cI, 40, .inl (fun k9 => iI (zEx.nameLengths k9)))), (aEx_names, .inl (cB, 1200, .inl zEx.names)), (aWa, .inr (7, [.int (iI zW1.typeCount), .ref aWa_parameterCounts, .ref aWa_parameters, .ref aWa_results, .int (iI zW3.functionCount), .ref aWa_functionTypes, .ref aWa_starts, .ref aWa_localCounts, .ref aWa_locals, .int (bI zW5.hasMemory), .long zW5.pagesAtFirst, .long zW5.pagesMost, .int (iI zW6.globalCount), .ref aWa_globalTypes, .ref aWa_globalsChange, .ref aWa_initialTypes, .ref aWa_initialValues, .ref aEx, .ref aCo])), (aWR, .inr (0, [.ref aTp, .int (iI zWr.tapeLength), .ref aAr, .int (iI zWr.argumentCount), .ref aRd, .ref aVa, .ref aMa, .ref aWa, .ref aW2, .int (bI zWr.loaded), .int (iI zWr.reason)]))] sz) (fun o w1 => ozp R9 (fun x9 => (KWr.Ok x9.1 ∧ R32 x9.2) ∧ o = .returned (some (.int (iI x9.2))) ∧ w1 = [(aTp, .inl (cB, 2000, .inl zSo.bytes)), (aEx, .inr (8, [.int (iI zEx.size), .ref aEx_kinds, .ref aEx_indices, .ref aEx_nameLengths, .ref aEx_names])), (aEx_kinds, .inl (cI, 40, .inl (fun k9 => iI (zEx.kinds k9)))), (aEx_indices, .inl (cI, 40, .inl (fun k9 => iI (zEx.indices k9)))), (aEx_nameLengths, .inl (cI, 40, .inl (fun k9 => iI (zEx.nameLengths k9)))), (aEx_names, .inl (cB, 1200, .inl zEx.names)), (aWa, .inr (7, [.int (iI zW1.typeCount), .ref aWa_parameterCounts, .ref aWa_parameters, .ref aWa_results, .int (iI zW3.functionCount), .ref aWa_functionTypes, .ref aWa_starts, .ref aWa_localCounts, .ref aWa_locals, .int (bI zW5.hasMemory), .long zW5.pagesAtFirst, .long zW5.pagesMost, .int (iI zW6.globalCount), .ref aWa_globalTypes, .ref aWa_globalsChange, .ref aWa_initialTypes, .ref aWa_initialValues, .ref aEx, .ref aCo])), (aWR, .inr (0, [.ref aTp, .int (iI x9.1.tapeLength), .ref aAr, .int (iI x9.1.argumentCount), .ref aRd, .ref aVa, .ref aMa, .ref aWa, .ref aW2, .int (bI x9.1.loaded), .int (iI x9.1.reason)]))]) (fun _ => False))) 0 0 (va_A [(aTp, .inl (cB, 2000, .inl zSo.bytes)), (aEx, .inr (8, [.int (iI zEx.size), .ref aEx_kinds, .ref aEx_indices, .ref aEx_nameLengths, .ref aEx_names])), (aEx_kinds, .inl (cI, 40, .inl (fun k9 => iI (zEx.kinds k9)))), (aEx_indices, .inl (cI, 40, .inl (fun k9 => iI (zEx.indices k9)))), (aEx_nameLengths, .inl (cI, 40, .inl (fun k9 => iI (zEx.nameLengths k9)))), (aEx_names, .inl (cB, 1200, .inl zEx.names)), (aWa, .inr (7, [.int (iI zW1.typeCount), .ref aWa_parameterCounts, .ref aWa_parameters, .ref aWa_results, .int (iI zW3.functionCount), .ref aWa_functionTypes, .ref aWa_starts, .ref aWa_localCounts, .ref aWa_locals, .int (bI zW5.hasMemory), .long zW5.pagesAtFirst, .long zW5.pagesMost, .int (iI zW6.globalCount), .ref aWa_globalTypes, .ref aWa_globalsChange, .ref aWa_initialTypes, .ref aWa_initialValues, .ref aEx, .ref aCo])), (aWR, .inr (0, [.ref aTp, .int (iI zWr.tapeLength), .ref aAr, .int (iI zWr.argumentCount), .ref aRd, .ref aVa, .ref aMa, .ref aWa, .ref aW2, .int (bI zWr.loaded), .int (iI zWr.reason)]))] sz) := by
  refine ex_ofW (cc := b_WR_find) (maxL := 2) (ret := (some .int)) (by decide) rfl ?_
  intro p e s m args below meth c s₁ B hml hno hv
  obtain ⟨rfl, hsz, hP, hK, hD0, hE⟩ := hv
  have hx := B.exec
  have hb := B.bytes
  have hr := B.returns
  have hts : ∀ w ∈ lw_good, w.before _ s = true := fun w h => atoms_spec (ws := wx y_WR_find b_WR_find 2 (some .int)) B.pre w (List.mem_cons_of_mem _ h)
  have hown : s.vm.findClass R_WR = some m.cls := findClass_of_methodNamed B.named
  have hlocks := B.notSynchronized
  subst hsz
  have hNS := xx_nostat hP
  have hD := hD0.self (sz := s.heap.size)
  generalize hAe : va_A [(aTp, .inl (cB, 2000, .inl zSo.bytes)), (aEx, .inr (8, [.int (iI zEx.size), .ref aEx_kinds, .ref aEx_indices, .ref aEx_nameLengths, .ref aEx_names])), (aEx_kinds, .inl (cI, 40, .inl (fun k9 => iI (zEx.kinds k9)))), (aEx_indices, .inl (cI, 40, .inl (fun k9 => iI (zEx.indices k9)))), (aEx_nameLengths, .inl (cI, 40, .inl (fun k9 => iI (zEx.nameLengths k9)))), (aEx_names, .inl (cB, 1200, .inl zEx.names)), (aWa, .inr (7, [.int (iI zW1.typeCount), .ref aWa_parameterCounts, .ref aWa_parameters, .ref aWa_results, .int (iI zW3.functionCount), .ref aWa_functionTypes, .ref aWa_starts, .ref aWa_localCounts, .ref aWa_locals, .int (bI zW5.hasMemory), .long zW5.pagesAtFirst, .long zW5.pagesMost, .int (iI zW6.globalCount), .ref aWa_globalTypes, .ref aWa_globalsChange, .ref aWa_initialTypes, .ref aWa_initialValues, .ref aEx, .ref aCo])), (aWR, .inr (0, [.ref aTp, .int (iI zWr.tapeLength), .ref aAr, .int (iI zWr.argumentCount), .ref aRd, .ref aVa, .ref aMa, .ref aWa, .ref aW2, .int (bI zWr.loaded), .int (iI zWr.reason)]))] s.heap.size = A at hD hE hNS ⊢
  have hA : ∀ q : Nat, s.heap.size ≤ q → A q := fun q h => by rw [← hAe]; exact Or.inr h
  have hS : va_S A s.heap s.heap [] := va_S.rf
  have hl := lv_entry ([.ref aWR]) (n := 2) (Nat.le_of_ble_eq_true rfl)
  rw [lg_entry_eq]
  generalize (lg_sl ([.ref aWR]) ++ List.replicate (2 - (lg_sl ([.ref aWR])).length) Slot.unset).toArray = ls at hl ⊢
  have hl : lv_has ls 2 [(0, .ref aWR)] := hl
  unfold f_WR_find at hf
  refine lv_aload_n hx hb d_WR_find_0 rfl (lv_at hl 0 rfl) ?_
  refine va_get (D := G) (ci := 0) (v := .int (iI zWr.tapeLength)) (C := R_WR) (T := F_WR) (N := 11) hx hb hts i_WR hown hK hP 7 rfl rfl 1 (by decide) (hts _ m_419) (fun _ h9 => h9) rfl d_WR_find_1 ?_
  refine lv_istore_n (lv' := [(1, .int (iI zWr.tapeLength)), (0, .ref aWR)]) hx hb d_WR_find_4 rfl hl (by decide) rfl (fun ls hl => ?_)
  refine lv_aload_n hx hb d_WR_find_5 rfl (lv_at hl 1 rfl) ?_
  refine lv_iconst (v := iI 0) hx hb d_WR_find_6 (by decide) ?_
  refine va_put (D := G) (ci := 0) (v := .int (iI 0)) (ty := .int) (C := R_WR) (T := F_WR) (N := 11) hx hb hts i_WR t_WR t_WR_ok n_WR hown hK hP hD hS 7 rfl rfl 1 (by decide) (hts _ m_419) (fun _ h9 => h9) rfl (by decide +kernel) rfl rfl (Nat.le_of_ble_eq_true rfl) d_WR_find_7 (fun H_1 locs_1 hP_1 hD_1 hS_1 => ?_)
  clear hS hD hP
  have hQ9 : (fun w9 => va_P G classes w9 H_1 ∧ va_D A w9) [(aTp, .inl (cB, 2000, .inl zSo.bytes)), (aEx, .inr (8, [.int (iI zEx.size), .ref aEx_kinds, .ref aEx_indices, .ref aEx_nameLengths, .ref aEx_names])), (aEx_kinds, .inl (cI, 40, .inl (fun k9 => iI (zEx.kinds k9)))), (aEx_indices, .inl (cI, 40, .inl (fun k9 => iI (zEx.indices k9)))), (aEx_nameLengths, .inl (cI, 40, .inl (fun k9 => iI (zEx.nameLengths k9)))), (aEx_names, .inl (cB, 1200, .inl zEx.names)), (aWa, .inr (7, [.int (iI zW1.typeCount), .ref aWa_parameterCounts, .ref aWa_parameters, .ref aWa_results, .int (iI zW3.functionCount), .ref aWa_functionTypes, .ref aWa_starts, .ref aWa_localCounts, .ref aWa_locals, .int (bI zW5.hasMemory), .long zW5.pagesAtFirst, .long zW5.pagesMost, .int (iI zW6.globalCount), .ref aWa_globalTypes, .ref aWa_globalsChange, .ref aWa_initialTypes, .ref aWa_initialValues, .ref aEx, .ref aCo])), (aWR, .inr (0, [.ref aTp, .int (iI 0), .ref aAr, .int (iI zWr.argumentCount), .ref aRd, .ref aVa, .ref aMa, .ref aWa, .ref aW2, .int (bI zWr.loaded), .int (iI zWr.reason)]))] := ⟨hP_1, hD_1⟩
  clear hP_1 hD_1
  obtain ⟨hP_1, hD_1⟩ := hQ9
  refine lv_aload_n hx hb d_WR_find_10 rfl (lv_at hl 1 rfl) ?_
  refine va_get (D := G) (ci := 0) (v := .int (bI zWr.loaded)) (C := R_WR) (T := F_WR) (N := 11) hx hb hts i_WR hown hK hP_1 7 rfl rfl 9 (by decide) (hts _ m_427) (fun _ h9 => h9) rfl d_WR_find_11 ?_
  refine jpE hf (fun K_2 hK_2 hf9 => ?_)
  replace hf := hf9
  clear hf9
  have hJK_2 : ∀ (y_1 : Int), R32 y_1 → K_2 y_1 = R9 → ∀ (H_1 : Heap) (locs_1 : List Loc), (fun w9 => va_P G classes w9 H_1 → va_D A w9 → va_S A s.heap H_1 locs_1 → ∀ (ls : Array Slot), lv_has ls 2 [(0, .ref aWR), (1, .int (iI zWr.tapeLength))] → W p l e (headSpec (wx y_WR_find b_WR_find 2 (some .int)) { frames := 2, cells := 0, slots := 0, locals := 48 }).room s m ([.ref aWR] : List Value).toArray below meth c H_1 locs_1 0 0 (MX below (XQ G classes A (pq_WR_find cB cI aTp aEx aEx_kinds aEx_indices aEx_nameLengths aEx_names aWa aWa_parameterCounts aWa_parameters aWa_results aWa_functionTypes aWa_starts aWa_localCounts aWa_locals aWa_globalTypes aWa_globalsChange aWa_initialTypes aWa_initialValues aCo aWR aAr aRd aVa aMa aW2 zSo zEx zW1 zW3 zW5 zW6 R9)) ([.ref aWR] : List Value).toArray s 0 0 A) (F0 m 36 ls [.int (iI y_1)])) [(aTp, .inl (cB, 2000, .inl zSo.bytes)), (aEx, .inr (8, [.int (iI zEx.size), .ref aEx_kinds, .ref aEx_indices, .ref aEx_nameLengths, .ref aEx_names])), (aEx_kinds, .inl (cI, 40, .inl (fun k9 => iI (zEx.kinds k9)))), (aEx_indices, .inl (cI, 40, .inl (fun k9 => iI (zEx.indices k9)))), (aEx_nameLengths, .inl (cI, 40, .inl (fun k9 => iI (zEx.nameLengths k9)))), (aEx_names, .inl (cB, 1200, .inl zEx.names)), (aWa, .inr (7, [.int (iI zW1.typeCount), .ref aWa_parameterCounts, .ref aWa_parameters, .ref aWa_results, .int (iI zW3.functionCount), .ref aWa_functionTypes, .ref aWa_starts, .ref aWa_localCounts, .ref aWa_locals, .int (bI zW5.hasMemory), .long zW5.pagesAtFirst, .long zW5.pagesMost, .int (iI zW6.globalCount), .ref aWa_globalTypes, .ref aWa_globalsChange, .ref aWa_initialTypes, .ref aWa_initialValues, .ref aEx, .ref aCo])), (aWR, .inr (0, [.ref aTp, .int (iI 0), .ref aAr, .int (iI zWr.argumentCount), .ref aRd, .ref aVa, .ref aMa, .ref aWa, .ref aW2, .int (bI zWr.loaded), .int (iI zWr.reason)]))] := by
    intro y_1 hy_1 hf H_3 locs_3 hP_3 hD_3 hS_3 ls hl
    clear hS_1 hD_1 hP_1
    replace hf := (congrFun hK_2 y_1).symm.trans hf
    clear hK_2
    exact ex_W (fun _ h => ex_mq h) (W.iret (v := iI y_1) hx hb hr (fun t ht hW => ⟨⟨_, ozr hf ⟨⟨(KWr.Ok.mk (show R32 (0) by decide) hzWr.argumentCount hzWr.reason : KWr.Ok (KWr.mk 0 zWr.argumentCount zWr.loaded zWr.reason)), hy_1⟩, rfl, rfl⟩, by rw [ht]; exact hP_3, hD_3⟩, hS_3.F ht⟩) hS_3.2.2 d_WR_find_36)
  clear hK_2
  refine lv_if_eq (tgt := 35) hx hb d_WR_find_14 (by decide) (fun c_3 => ?_) (fun c_3 => ?_)
  · have c_3 := (zb_f c_3)
    replace hf := ifn c_3 hf
    refine lv_iconst (v := iI (-1)) hx hb d_WR_find_35 (by decide) ?_
    exact hJK_2 (-1) (show R32 (-1) by decide) hf _ _ hP_1 hD_1 hS_1 _ (lv_sub hl [1, 0] rfl)
  · have c_3 := (zb_t c_3)
    replace hf := ifp c_3 hf
    refine lv_aload_n hx hb d_WR_find_17 rfl (lv_at hl 1 rfl) ?_
    refine va_get (D := G) (ci := 0) (v := .ref aWa) (C := R_WR) (T := F_WR) (N := 11) hx hb hts i_WR hown hK hP_1 7 rfl rfl 7 (by decide) (hts _ m_425) (fun _ h9 => h9) rfl d_WR_find_18 ?_
    refine va_get (D := G) (ci := 7) (v := .ref aEx) (C := R_Wa) (T := F_Wa) (N := 19) hx hb hts i_Wa hown hK hP_1 6 rfl rfl 17 (by decide) (hts _ m_372) (fun _ h9 => h9) rfl d_WR_find_21 ?_
    refine lv_aload_n hx hb d_WR_find_24 rfl (lv_at hl 1 rfl) ?_
    refine va_get (D := G) (ci := 0) (v := .ref aTp) (C := R_WR) (T := F_WR) (N := 11) hx hb hts i_WR hown hK hP_1 7 rfl rfl 0 (by decide) (hts _ m_418) (fun _ h9 => h9) rfl d_WR_find_25 ?_
    refine lv_iload_n hx hb d_WR_find_28 rfl (lv_at hl 0 rfl) ?_
    replace hf := obE hnb hf
    obtain ⟨x_4, e_5, hf⟩ := hf
    refine xx_callV (wc := [(aTp, .inl (cB, 2000, .inl zSo.bytes)), (aEx, .inr (8, [.int (iI zEx.size), .ref aEx_kinds, .ref aEx_indices, .ref aEx_nameLengths, .ref aEx_names])), (aEx_kinds, .inl (cI, 40, .inl (fun k9 => iI (zEx.kinds k9)))), (aEx_indices, .inl (cI, 40, .inl (fun k9 => iI (zEx.indices k9)))), (aEx_nameLengths, .inl (cI, 40, .inl (fun k9 => iI (zEx.nameLengths k9)))), (aEx_names, .inl (cB, 1200, .inl zEx.names))]) (wr := [(aWa, .inr (7, [.int (iI zW1.typeCount), .ref aWa_parameterCounts, .ref aWa_parameters, .ref aWa_results, .int (iI zW3.functionCount), .ref aWa_functionTypes, .ref aWa_starts, .ref aWa_localCounts, .ref aWa_locals, .int (bI zW5.hasMemory), .long zW5.pagesAtFirst, .long zW5.pagesMost, .int (iI zW6.globalCount), .ref aWa_globalTypes, .ref aWa_globalsChange, .ref aWa_initialTypes, .ref aWa_initialValues, .ref aEx, .ref aCo])), (aWR, .inr (0, [.ref aTp, .int (iI 0), .ref aAr, .int (iI zWr.argumentCount), .ref aRd, .ref aVa, .ref aMa, .ref aWa, .ref aW2, .int (bI zWr.loaded), .int (iI zWr.reason)]))]) (As := [.ref aTp, .int (iI zWr.tapeLength)]) (rest := []) ⟨hx, hb, hml, hown, hts⟩ xE_st hK hE hA (k_Ex_functionNamed l htr G cB cI cJ cZ cG aTp aEx aEx_kinds aEx_indices aEx_nameLengths aEx_names zSo zEx hzSo hzEx zWr.tapeLength hzWr.tapeLength fu (.ret x_4) e_5 ret_nb _) (xw_V 2 hts m_456 m_457 m_458 m_9 m_459 (by decide +kernel) ⟨(Nat.le_of_ble_eq_true rfl), (Nat.le_of_ble_eq_true rfl)⟩) hP_1 hD_1 hS_1 [0, 1, 2, 3, 4, 5] [6, 7] rfl rfl (by decide +kernel) (by decide +kernel) (by decide +kernel) 1 8 rfl rfl rfl rfl hl.1 rfl (Nat.le_of_ble_eq_true rfl) d_WR_find_29 ⟨(Nat.le_of_ble_eq_true rfl), (Nat.le_of_ble_eq_true rfl)⟩ (fun v9 w9 H_4 locs_4 hp hP_4 hD_4 hS_4 => ?_) (fun x9 w9 H9 l9 hp _ _ _ => absurd hp (fun q9 => by obtain ⟨-, ho, -⟩ := q9; cases ho))
    clear hS_1 hD_1 hP_1
    obtain ⟨hx_4, ho, rfl⟩ := hp
    cases ho
    have hQ9 : (fun w9 => va_P G classes w9 H_4 ∧ va_D A w9) [(aWa, .inr (7, [.int (iI zW1.typeCount), .ref aWa_parameterCounts, .ref aWa_parameters, .ref aWa_results, .int (iI zW3.functionCount), .ref aWa_functionTypes, .ref aWa_starts, .ref aWa_localCounts, .ref aWa_locals, .int (bI zW5.hasMemory), .long zW5.pagesAtFirst, .long zW5.pagesMost, .int (iI zW6.globalCount), .ref aWa_globalTypes, .ref aWa_globalsChange, .ref aWa_initialTypes, .ref aWa_initialValues, .ref aEx, .ref aCo])), (aWR, .inr (0, [.ref aTp, .int (iI 0), .ref aAr, .int (iI zWr.argumentCount), .ref aRd, .ref aVa, .ref aMa, .ref aWa, .ref aW2, .int (bI zWr.loaded), .int (iI zWr.reason)])), (aTp, .inl (cB, 2000, .inl zSo.bytes)), (aEx, .inr (8, [.int (iI zEx.size), .ref aEx_kinds, .ref aEx_indices, .ref aEx_nameLengths, .ref aEx_names])), (aEx_kinds, .inl (cI, 40, .inl (fun k9 => iI (zEx.kinds k9)))), (aEx_indices, .inl (cI, 40, .inl (fun k9 => iI (zEx.indices k9)))), (aEx_nameLengths, .inl (cI, 40, .inl (fun k9 => iI (zEx.nameLengths k9)))), (aEx_names, .inl (cB, 1200, .inl zEx.names))] := ⟨hP_4, hD_4⟩
    clear hP_4 hD_4
    obtain ⟨hP_4, hD_4⟩ := hQ9
    refine lv_goto (tgt := 36) hx hb d_WR_find_32 (by decide) ?_
    exact hJK_2 x_4 hx_4 hf _ _ (hP_4.sub [2, 3, 4, 5, 6, 7, 0, 1] rfl) (hD_4.sub [2, 3, 4, 5, 6, 7, 0, 1] (by decide +kernel) rfl) hS_4 _ (lv_sub hl [1, 0] rfl)
set_option maxHeartbeats 8000000 in
set_option maxRecDepth 100000 in
theorem k_WR_argument (l : Launch) (htr : l.stackTraces = false) (G : va_G) (cB cI cJ cZ cG : ClassId) (aAr : Nat) (aWR : Nat) (aTp : Nat) (aRd : Nat) (aVa : Nat) (aMa : Nat) (aWa : Nat) (aW2 : Nat) (zAr : KAr) (zWr : KWr) (hzAr : KAr.Ok zAr) (hzWr : KWr.Ok zWr) (v_v : Int64) (R9 : Out (KAr × KWr × Nat) (KAr × KWr × Int)) (hf : f_WR_argument zAr zWr v_v = R9) (hnb : R9 ≠ .bad) (sz : Nat) : MetX l y_WR_argument (wx y_WR_argument b_WR_argument 3 (some .int)) { frames := 6, cells := 1, slots := 6, locals := 90 } (XP G classes (xtys cB cI cJ cZ cG) xE [.ref aWR, .long v_v] [(aAr, .inl (cJ, 8, .inr (.inl zAr.arguments))), (aWR, .inr (0, [.ref aTp, .int (iI zWr.tapeLength), .ref aAr, .int (iI zWr.argumentCount), .ref aRd, .ref aVa, .ref aMa, .ref aWa, .ref aW2, .int (bI zWr.loaded), .int (iI zWr.reason)]))] sz) (XQ G classes (va_A [(aAr, .inl (cJ, 8, .inr (.inl zAr.arguments))), (aWR, .inr (0, [.ref aTp, .int (iI zWr.tapeLength), .ref aAr, .int (iI zWr.argumentCount), .ref aRd, .ref aVa, .ref aMa, .ref aWa, .ref aW2, .int (bI zWr.loaded), .int (iI zWr.reason)]))] sz) (fun o w1 => ozp R9 (fun x9 => (KAr.Ok x9.1 ∧ KWr.Ok x9.2.1 ∧ R32 x9.2.2) ∧ o = .returned (some (.int (iI x9.2.2))) ∧ w1 = [(aAr, .inl (cJ, 8, .inr (.inl x9.1.arguments))), (aWR, .inr (0, [.ref aTp, .int (iI x9.2.1.tapeLength), .ref aAr, .int (iI x9.2.1.argumentCount), .ref aRd, .ref aVa, .ref aMa, .ref aWa, .ref aW2, .int (bI x9.2.1.loaded), .int (iI x9.2.1.reason)]))]) (fun t9 => ∃ x9e : Nat, (KAr.Ok t9.1 ∧ KWr.Ok t9.2.1) ∧ o = .threw x9e ∧ w1 = [(aAr, .inl (cJ, 8, .inr (.inl t9.1.arguments))), (aWR, .inr (0, [.ref aTp, .int (iI t9.2.1.tapeLength), .ref aAr, .int (iI t9.2.1.argumentCount), .ref aRd, .ref aVa, .ref aMa, .ref aWa, .ref aW2, .int (bI t9.2.1.loaded), .int (iI t9.2.1.reason)])), (x9e, .inr (t9.2.2, []))]))) 1 6 (va_A [(aAr, .inl (cJ, 8, .inr (.inl zAr.arguments))), (aWR, .inr (0, [.ref aTp, .int (iI zWr.tapeLength), .ref aAr, .int (iI zWr.argumentCount), .ref aRd, .ref aVa, .ref aMa, .ref aWa, .ref aW2, .int (bI zWr.loaded), .int (iI zWr.reason)]))] sz) := by
  refine ex_ofW (cc := b_WR_argument) (maxL := 3) (ret := (some .int)) (by decide) rfl ?_
  intro p e s m args below meth c s₁ B hml hno hv
  obtain ⟨rfl, hsz, hP, hK, hD0, hE⟩ := hv
  have hx := B.exec
  have hb := B.bytes
  have hr := B.returns
  have hts : ∀ w ∈ lw_good, w.before _ s = true := fun w h => atoms_spec (ws := wx y_WR_argument b_WR_argument 3 (some .int)) B.pre w (List.mem_cons_of_mem _ h)
  have hown : s.vm.findClass R_WR = some m.cls := findClass_of_methodNamed B.named
  have hlocks := B.notSynchronized
  have htr9 : e.platform.stackTraces = false := by rw [B.admits.platform]; exact htr
  subst hsz
  have hNS := xx_nostat hP
  have hD := hD0.self (sz := s.heap.size)
  generalize hAe : va_A [(aAr, .inl (cJ, 8, .inr (.inl zAr.arguments))), (aWR, .inr (0, [.ref aTp, .int (iI zWr.tapeLength), .ref aAr, .int (iI zWr.argumentCount), .ref aRd, .ref aVa, .ref aMa, .ref aWa, .ref aW2, .int (bI zWr.loaded), .int (iI zWr.reason)]))] s.heap.size = A at hD hE hNS ⊢
  have hA : ∀ q : Nat, s.heap.size ≤ q → A q := fun q h => by rw [← hAe]; exact Or.inr h
  have hS : va_S A s.heap s.heap [] := va_S.rf
  have hl := lv_entry ([.ref aWR, .long v_v]) (n := 3) (Nat.le_of_ble_eq_true rfl)
  rw [lg_entry_eq]
  generalize (lg_sl ([.ref aWR, .long v_v]) ++ List.replicate (3 - (lg_sl ([.ref aWR, .long v_v])).length) Slot.unset).toArray = ls at hl ⊢
  have hl : lv_has ls 3 [(0, .ref aWR), (1, .long v_v)] := hl
  unfold f_WR_argument at hf
  refine lv_aload_n hx hb d_WR_argument_0 rfl (lv_at hl 0 rfl) ?_
  refine va_get (D := G) (ci := 0) (v := .int (iI zWr.argumentCount)) (C := R_WR) (T := F_WR) (N := 11) hx hb hts i_WR hown hK hP 1 rfl rfl 3 (by decide) (hts _ m_421) (fun _ h9 => h9) rfl d_WR_argument_1 ?_
  refine lv_bipush (v := iI 8) hx hb d_WR_argument_4 (by decide) ?_
  refine lv_icmp_lt (tgt := 19) hx hb d_WR_argument_6 (by decide) (fun c_1 => ?_) (fun c_1 => ?_)
  · have c_1 := ((zv_lt (iI_t hzWr.argumentCount) (iI_t (show R32 (8) by decide)))).mp c_1
    replace hf := ifp c_1 hf
    refine lv_aload_n hx hb d_WR_argument_19 rfl (lv_at hl 0 rfl) ?_
    refine va_get (D := G) (ci := 0) (v := .ref aAr) (C := R_WR) (T := F_WR) (N := 11) hx hb hts i_WR hown hK hP 1 rfl rfl 2 (by decide) (hts _ m_420) (fun _ h9 => h9) rfl d_WR_argument_20 ?_
    refine lv_aload_n hx hb d_WR_argument_23 rfl (lv_at hl 0 rfl) ?_
    refine va_get (D := G) (ci := 0) (v := .int (iI zWr.argumentCount)) (C := R_WR) (T := F_WR) (N := 11) hx hb hts i_WR hown hK hP 1 rfl rfl 3 (by decide) (hts _ m_421) (fun _ h9 => h9) rfl d_WR_argument_24 ?_
    refine lv_lload_n hx hb d_WR_argument_27 rfl (lv_at hl 1 rfl) ?_
    replace hf := grd hnb hf
    obtain ⟨g_2, hf⟩ := hf
    refine va_last hx hb hK hP hD hS 0 2 rfl rfl (vp_in_iI hzWr.argumentCount g_2) d_WR_argument_28 (fun H_1 locs_1 hP_1 hD_1 hS_1 => ?_)
    clear hS hD hP
    rw [iI_clamp hzWr.argumentCount] at hP_1 hD_1
    have hQ9 : (fun w9 => va_P G classes w9 H_1 ∧ va_D A w9) [(aAr, .inl (cJ, 8, .inr (.inl (vp_updL zAr.arguments zWr.argumentCount.toNat v_v)))), (aWR, .inr (0, [.ref aTp, .int (iI zWr.tapeLength), .ref aAr, .int (iI zWr.argumentCount), .ref aRd, .ref aVa, .ref aMa, .ref aWa, .ref aW2, .int (bI zWr.loaded), .int (iI zWr.reason)]))] := ⟨hP_1, hD_1⟩
    clear hP_1 hD_1
    obtain ⟨hP_1, hD_1⟩ := hQ9
    refine lv_aload_n hx hb d_WR_argument_29 rfl (lv_at hl 0 rfl) ?_
    refine lv_dup hx hb d_WR_argument_30 rfl ?_
    refine va_get (D := G) (ci := 0) (v := .int (iI zWr.argumentCount)) (C := R_WR) (T := F_WR) (N := 11) hx hb hts i_WR hown hK hP_1 1 rfl rfl 3 (by decide) (hts _ m_421) (fun _ h9 => h9) rfl d_WR_argument_31 ?_
    refine lv_iconst (v := iI 1) hx hb d_WR_argument_34 (by decide) ?_
    refine lv_iadd hx hb d_WR_argument_35 ?_
    refine lv_topi (fun x9 e9 => ?_)
    obtain rfl : x9 = iI (zWr.argumentCount + 1) := e9.trans (iI_add _ _)
    replace hf := grd hnb hf
    obtain ⟨g_3, hf⟩ := hf
    refine va_put (D := G) (ci := 0) (v := .int (iI (zWr.argumentCount + 1))) (ty := .int) (C := R_WR) (T := F_WR) (N := 11) hx hb hts i_WR t_WR t_WR_ok n_WR hown hK hP_1 hD_1 hS_1 1 rfl rfl 3 (by decide) (hts _ m_421) (fun _ h9 => h9) rfl (by decide +kernel) rfl rfl (Nat.le_of_ble_eq_true rfl) d_WR_argument_36 (fun H_2 locs_2 hP_2 hD_2 hS_2 => ?_)
    clear hS_1 hD_1 hP_1
    have hQ9 : (fun w9 => va_P G classes w9 H_2 ∧ va_D A w9) [(aAr, .inl (cJ, 8, .inr (.inl (vp_updL zAr.arguments zWr.argumentCount.toNat v_v)))), (aWR, .inr (0, [.ref aTp, .int (iI zWr.tapeLength), .ref aAr, .int (iI (zWr.argumentCount + 1)), .ref aRd, .ref aVa, .ref aMa, .ref aWa, .ref aW2, .int (bI zWr.loaded), .int (iI zWr.reason)]))] := ⟨hP_2, hD_2⟩
    clear hP_2 hD_2
    obtain ⟨hP_2, hD_2⟩ := hQ9
    refine lv_aload_n hx hb d_WR_argument_39 rfl (lv_at hl 0 rfl) ?_
    refine va_get (D := G) (ci := 0) (v := .int (iI (zWr.argumentCount + 1))) (C := R_WR) (T := F_WR) (N := 11) hx hb hts i_WR hown hK hP_2 1 rfl rfl 3 (by decide) (hts _ m_421) (fun _ h9 => h9) rfl d_WR_argument_40 ?_
    refine W.widen (k := 1) (n := 6) (Nat.le_of_ble_eq_true rfl) (Nat.le_of_ble_eq_true rfl) ?_
    exact ex_W (fun _ h => ex_mq h) (W.iret (v := iI (zWr.argumentCount + 1)) hx hb hr (fun t ht hW => ⟨⟨_, ozr hf ⟨⟨(KAr.Ok.mk  : KAr.Ok (KAr.mk (vp_updL zAr.arguments zWr.argumentCount.toNat v_v))), (KWr.Ok.mk hzWr.tapeLength g_3 hzWr.reason : KWr.Ok (KWr.mk zWr.tapeLength (zWr.argumentCount + 1) zWr.loaded zWr.reason)), g_3⟩, rfl, rfl⟩, by rw [ht]; exact hP_2, hD_2⟩, hS_2.F ht⟩) hS_2.2.2 d_WR_argument_43)
  · have c_1 := (fun q9 => c_1 (((zv_lt (iI_t hzWr.argumentCount) (iI_t (show R32 (8) by decide)))).mpr q9))
    replace hf := ifn c_1 hf
    obtain ⟨qs, hZ⟩ := xE_text hE tx_108
    refine xx_throwNew (cls := "java/lang/IndexOutOfBoundsException") (names := ["java/lang/RuntimeException", "java/lang/Exception"]) (own := R_WR) hx htr9 hb hml hown (hts _ m_472) (hts _ m_473) (hts _ m_17) hZ (xE_atoms hE hts at_R_WR_56) (by decide +kernel) (by decide +kernel) hK 13 rfl hP hD hS hA hNS hl.1 d_WR_argument_9 d_WR_argument_12 d_WR_argument_13 d_WR_argument_15 d_WR_argument_18 (Nat.le_of_ble_eq_true rfl) (Nat.le_of_ble_eq_true rfl) (Nat.le_of_ble_eq_true rfl) (Nat.le_of_ble_eq_true rfl) (fun x_4 H locs hP hD hS => ?_)
    replace hP : va_P G classes [(aAr, .inl (cJ, 8, .inr (.inl zAr.arguments))), (aWR, .inr (0, [.ref aTp, .int (iI zWr.tapeLength), .ref aAr, .int (iI zWr.argumentCount), .ref aRd, .ref aVa, .ref aMa, .ref aWa, .ref aW2, .int (bI zWr.loaded), .int (iI zWr.reason)])), (x_4, .inr (13, []))] H := hP
    replace hD : va_D A [(aAr, .inl (cJ, 8, .inr (.inl zAr.arguments))), (aWR, .inr (0, [.ref aTp, .int (iI zWr.tapeLength), .ref aAr, .int (iI zWr.argumentCount), .ref aRd, .ref aVa, .ref aMa, .ref aWa, .ref aW2, .int (bI zWr.loaded), .int (iI zWr.reason)])), (x_4, .inr (13, []))] := hD
    exact ex_out rfl rfl rfl (hno _) hlocks (fun t ht hW => ⟨⟨_, ozt hf ⟨x_4, ⟨hzAr, hzWr⟩, rfl, rfl⟩, by rw [ht]; exact hP, hD⟩, hS.F ht⟩) hS.2.2
