abbrev b_So_signed : ByteArray := prog_10_method_11_code
def y_So_signed : MethodName := ⟨R_So, "signed", "(I)J"⟩
abbrev b_J_Math_min : ByteArray := prog_24_method_69_code
def y_J_Math_min : MethodName := ⟨"java/lang/Math", "min", "(II)I"⟩
abbrev b_So_open : ByteArray := prog_10_method_2_code
def y_So_open : MethodName := ⟨R_So, "open", "([BI)V"⟩
theorem d_So_signed_0 : decode b_So_signed 0 = .ok (.lconst 0, 1) := by decide +kernel
theorem d_So_signed_1 : decode b_So_signed 1 = .ok (.lstore_n 2, 1) := by decide +kernel
theorem d_So_signed_2 : decode b_So_signed 2 = .ok (.iconst 0, 1) := by decide +kernel
theorem d_So_signed_3 : decode b_So_signed 3 = .ok (.istore 4, 2) := by decide +kernel
theorem d_So_signed_5 : decode b_So_signed 5 = .ok (.iload 4, 2) := by decide +kernel
theorem d_So_signed_7 : decode b_So_signed 7 = .ok (.iload_n 1, 1) := by decide +kernel
theorem d_So_signed_8 : decode b_So_signed 8 = .ok (.if_icmp .ge 86, 3) := by decide +kernel
theorem d_So_signed_11 : decode b_So_signed 11 = .ok (.aload_n 0, 1) := by decide +kernel
theorem d_So_signed_12 : decode b_So_signed 12 = .ok (.invokevirtual 26, 3) := by decide +kernel
theorem d_So_signed_15 : decode b_So_signed 15 = .ok (.istore 5, 2) := by decide +kernel
theorem d_So_signed_17 : decode b_So_signed 17 = .ok (.iload 5, 2) := by decide +kernel
theorem d_So_signed_19 : decode b_So_signed 19 = .ok (.sipush 128, 3) := by decide +kernel
theorem d_So_signed_22 : decode b_So_signed 22 = .ok (.if_icmp .ge 54, 3) := by decide +kernel
theorem d_So_signed_25 : decode b_So_signed 25 = .ok (.iload 5, 2) := by decide +kernel
theorem d_So_signed_27 : decode b_So_signed 27 = .ok (.bipush 25, 2) := by decide +kernel
theorem d_So_signed_29 : decode b_So_signed 29 = .ok (.ishl, 1) := by decide +kernel
theorem d_So_signed_30 : decode b_So_signed 30 = .ok (.bipush 25, 2) := by decide +kernel
theorem d_So_signed_32 : decode b_So_signed 32 = .ok (.ishr, 1) := by decide +kernel
theorem d_So_signed_33 : decode b_So_signed 33 = .ok (.istore 6, 2) := by decide +kernel
theorem d_So_signed_35 : decode b_So_signed 35 = .ok (.iload 6, 2) := by decide +kernel
theorem d_So_signed_37 : decode b_So_signed 37 = .ok (.bipush 7, 2) := by decide +kernel
theorem d_So_signed_39 : decode b_So_signed 39 = .ok (.iload_n 1, 1) := by decide +kernel
theorem d_So_signed_40 : decode b_So_signed 40 = .ok (.iload 4, 2) := by decide +kernel
theorem d_So_signed_42 : decode b_So_signed 42 = .ok (.isub, 1) := by decide +kernel
theorem d_So_signed_43 : decode b_So_signed 43 = .ok (.invokestatic 30, 3) := by decide +kernel
theorem d_So_signed_46 : decode b_So_signed 46 = .ok (.iconst 1, 1) := by decide +kernel
theorem d_So_signed_47 : decode b_So_signed 47 = .ok (.isub, 1) := by decide +kernel
theorem d_So_signed_48 : decode b_So_signed 48 = .ok (.ishr, 1) := by decide +kernel
theorem d_So_signed_49 : decode b_So_signed 49 = .ok (.istore 7, 2) := by decide +kernel
theorem d_So_signed_51 : decode b_So_signed 51 = .ok (.iload 7, 2) := by decide +kernel
theorem d_So_signed_53 : decode b_So_signed 53 = .ok (.ifCond .eq 14, 3) := by decide +kernel
theorem d_So_signed_56 : decode b_So_signed 56 = .ok (.iload 7, 2) := by decide +kernel
theorem d_So_signed_58 : decode b_So_signed 58 = .ok (.iconst (-1), 1) := by decide +kernel
theorem d_So_signed_59 : decode b_So_signed 59 = .ok (.if_icmp .eq 8, 3) := by decide +kernel
theorem d_So_signed_62 : decode b_So_signed 62 = .ok (.aload_n 0, 1) := by decide +kernel
theorem d_So_signed_63 : decode b_So_signed 63 = .ok (.iconst 1, 1) := by decide +kernel
theorem d_So_signed_64 : decode b_So_signed 64 = .ok (.putfield 22, 3) := by decide +kernel
theorem d_So_signed_67 : decode b_So_signed 67 = .ok (.lload_n 2, 1) := by decide +kernel
theorem d_So_signed_68 : decode b_So_signed 68 = .ok (.iload 6, 2) := by decide +kernel
theorem d_So_signed_70 : decode b_So_signed 70 = .ok (.i2l, 1) := by decide +kernel
theorem d_So_signed_71 : decode b_So_signed 71 = .ok (.iload 4, 2) := by decide +kernel
theorem d_So_signed_73 : decode b_So_signed 73 = .ok (.lshl, 1) := by decide +kernel
theorem d_So_signed_74 : decode b_So_signed 74 = .ok (.lor, 1) := by decide +kernel
theorem d_So_signed_75 : decode b_So_signed 75 = .ok (.lreturn, 1) := by decide +kernel
theorem d_So_signed_76 : decode b_So_signed 76 = .ok (.lload_n 2, 1) := by decide +kernel
theorem d_So_signed_77 : decode b_So_signed 77 = .ok (.iload 5, 2) := by decide +kernel
theorem d_So_signed_79 : decode b_So_signed 79 = .ok (.bipush 127, 2) := by decide +kernel
theorem d_So_signed_81 : decode b_So_signed 81 = .ok (.iand, 1) := by decide +kernel
theorem d_So_signed_82 : decode b_So_signed 82 = .ok (.i2l, 1) := by decide +kernel
theorem d_So_signed_83 : decode b_So_signed 83 = .ok (.iload 4, 2) := by decide +kernel
theorem d_So_signed_85 : decode b_So_signed 85 = .ok (.lshl, 1) := by decide +kernel
theorem d_So_signed_86 : decode b_So_signed 86 = .ok (.lor, 1) := by decide +kernel
theorem d_So_signed_87 : decode b_So_signed 87 = .ok (.lstore_n 2, 1) := by decide +kernel
theorem d_So_signed_88 : decode b_So_signed 88 = .ok (.iinc 4 7, 3) := by decide +kernel
theorem d_So_signed_91 : decode b_So_signed 91 = .ok (.goto (-86), 3) := by decide +kernel
theorem d_So_signed_94 : decode b_So_signed 94 = .ok (.aload_n 0, 1) := by decide +kernel
theorem d_So_signed_95 : decode b_So_signed 95 = .ok (.iconst 1, 1) := by decide +kernel
theorem d_So_signed_96 : decode b_So_signed 96 = .ok (.putfield 22, 3) := by decide +kernel
theorem d_So_signed_99 : decode b_So_signed 99 = .ok (.lconst 0, 1) := by decide +kernel
theorem d_So_signed_100 : decode b_So_signed 100 = .ok (.lreturn, 1) := by decide +kernel
theorem d_So_open_0 : decode b_So_open 0 = .ok (.aload_n 0, 1) := by decide +kernel
theorem d_So_open_1 : decode b_So_open 1 = .ok (.aload_n 1, 1) := by decide +kernel
theorem d_So_open_2 : decode b_So_open 2 = .ok (.putfield 9, 3) := by decide +kernel
theorem d_So_open_5 : decode b_So_open 5 = .ok (.aload_n 0, 1) := by decide +kernel
theorem d_So_open_6 : decode b_So_open 6 = .ok (.iconst 0, 1) := by decide +kernel
theorem d_So_open_7 : decode b_So_open 7 = .ok (.putfield 15, 3) := by decide +kernel
theorem d_So_open_10 : decode b_So_open 10 = .ok (.aload_n 0, 1) := by decide +kernel
theorem d_So_open_11 : decode b_So_open 11 = .ok (.iload_n 2, 1) := by decide +kernel
theorem d_So_open_12 : decode b_So_open 12 = .ok (.putfield 19, 3) := by decide +kernel
theorem d_So_open_15 : decode b_So_open 15 = .ok (.aload_n 0, 1) := by decide +kernel
theorem d_So_open_16 : decode b_So_open 16 = .ok (.iconst 0, 1) := by decide +kernel
theorem d_So_open_17 : decode b_So_open 17 = .ok (.putfield 22, 3) := by decide +kernel
theorem d_So_open_20 : decode b_So_open 20 = .ok (.return_, 1) := by decide +kernel
theorem m_680 : Cond.methodLink R_So 30 y_J_Math_min ∈ lw_good := lw_in (List.mem_append_right _ (List.mem_of_getElem? (i := 680) (by decide +kernel))) (by decide +kernel)
theorem m_681 : Cond.static y_J_Math_min ∈ lw_good := lw_in (List.mem_append_right _ (List.mem_of_getElem? (i := 681) (by decide +kernel))) (by decide +kernel)
theorem m_19 : Cond.initialized "java/lang/Math" ∈ lw_good := lw_in (List.mem_append_right _ (List.mem_of_getElem? (i := 19) (by decide +kernel))) (by decide +kernel)
theorem m_682 : Cond.code y_J_Math_min b_J_Math_min 2 (some .int) ∈ lw_good := lw_in (List.mem_append_right _ (List.mem_of_getElem? (i := 682) (by decide +kernel))) (by decide +kernel)
set_option maxHeartbeats 8000000 in
set_option maxRecDepth 100000 in
theorem k_So_signed (l : Launch) (htr : l.stackTraces = false) (G : va_G) (cB cI cJ cZ cG : ClassId) (aSo : Nat) (aTp : Nat) (zSo : KSo) (hzSo : KSo.Ok zSo) (v_bits : Int) (hv_bits : R32 v_bits) (fu : Nat) (R9 : Out Empty (KSo × Int64)) (hf : f_So_signed fu zSo v_bits = R9) (hnb : R9 ≠ .bad) (sz : Nat) : MetX l y_So_signed (wx y_So_signed b_So_signed 8 (some .long)) { frames := 1, cells := 0, slots := 0, locals := 21 } (XP G classes (xtys cB cI cJ cZ cG) xE [.ref aSo, .int (iI v_bits)] [(aSo, .inr (3, [.ref aTp, .int (iI zSo.at_), .int (iI zSo.limit), .int (bI zSo.failed)])), (aTp, .inl (cB, 2000, .inl zSo.bytes))] sz) (XQ G classes (va_A [(aSo, .inr (3, [.ref aTp, .int (iI zSo.at_), .int (iI zSo.limit), .int (bI zSo.failed)])), (aTp, .inl (cB, 2000, .inl zSo.bytes))] sz) (fun o w1 => ozp R9 (fun x9 => (KSo.Ok x9.1) ∧ o = .returned (some (.long x9.2)) ∧ w1 = [(aSo, .inr (3, [.ref aTp, .int (iI x9.1.at_), .int (iI x9.1.limit), .int (bI x9.1.failed)])), (aTp, .inl (cB, 2000, .inl x9.1.bytes))]) (fun _ => False))) 0 0 (va_A [(aSo, .inr (3, [.ref aTp, .int (iI zSo.at_), .int (iI zSo.limit), .int (bI zSo.failed)])), (aTp, .inl (cB, 2000, .inl zSo.bytes))] sz) := by
  refine ex_ofW (cc := b_So_signed) (maxL := 8) (ret := (some .long)) (by decide) rfl ?_
  intro p e s m args below meth c s₁ B hml hno hv
  obtain ⟨rfl, hsz, hP, hK, hD0, hE⟩ := hv
  have hx := B.exec
  have hb := B.bytes
  have hr := B.returns
  have hts : ∀ w ∈ lw_good, w.before _ s = true := fun w h => atoms_spec (ws := wx y_So_signed b_So_signed 8 (some .long)) B.pre w (List.mem_cons_of_mem _ h)
  have hown : s.vm.findClass R_So = some m.cls := findClass_of_methodNamed B.named
  have hlocks := B.notSynchronized
  subst hsz
  have hNS := xx_nostat hP
  have hD := hD0.self (sz := s.heap.size)
  generalize hAe : va_A [(aSo, .inr (3, [.ref aTp, .int (iI zSo.at_), .int (iI zSo.limit), .int (bI zSo.failed)])), (aTp, .inl (cB, 2000, .inl zSo.bytes))] s.heap.size = A at hD hE hNS ⊢
  have hA : ∀ q : Nat, s.heap.size ≤ q → A q := fun q h => by rw [← hAe]; exact Or.inr h
  have hS : va_S A s.heap s.heap [] := va_S.rf
  have hl := lv_entry ([.ref aSo, .int (iI v_bits)]) (n := 8) (Nat.le_of_ble_eq_true rfl)
  rw [lg_entry_eq]
  generalize (lg_sl ([.ref aSo, .int (iI v_bits)]) ++ List.replicate (8 - (lg_sl ([.ref aSo, .int (iI v_bits)])).length) Slot.unset).toArray = ls at hl ⊢
  have hl : lv_has ls 8 [(0, .ref aSo), (1, .int (iI v_bits))] := hl
  unfold f_So_signed at hf
  refine lv_lconst (v := 0) hx hb d_So_signed_0 (by decide) ?_
  refine lv_lstore_n (lv' := [(2, .long 0), (0, .ref aSo), (1, .int (iI v_bits))]) hx hb d_So_signed_1 rfl hl (by decide) rfl (fun ls hl => ?_)
  refine lv_iconst (v := iI 0) hx hb d_So_signed_2 (by decide) ?_
  refine lv_istore (lv' := [(4, .int (iI 0)), (2, .long 0), (0, .ref aSo), (1, .int (iI v_bits))]) hx hb d_So_signed_3 hl (by decide) rfl (fun ls hl => ?_)
  have loop_5 : ∀ (n_1 : Nat) (zSo_3 : KSo) (w_value_4 : Int64) (w_shift_5 : Int), KSo.Ok zSo_3 → R32 w_shift_5 → L5_So_signed fu v_bits n_1 zSo_3 w_value_4 w_shift_5 = R9 → ∀ (H : Heap) (locs : List Loc), va_P G classes [(aSo, .inr (3, [.ref aTp, .int (iI zSo_3.at_), .int (iI zSo_3.limit), .int (bI zSo_3.failed)])), (aTp, .inl (cB, 2000, .inl zSo_3.bytes))] H → va_D A [(aSo, .inr (3, [.ref aTp, .int (iI zSo_3.at_), .int (iI zSo_3.limit), .int (bI zSo_3.failed)])), (aTp, .inl (cB, 2000, .inl zSo_3.bytes))] → va_S A s.heap H locs → ∀ (ls : Array Slot), lv_has ls 8 [(0, .ref aSo), (1, .int (iI v_bits)), (2, .long w_value_4), (4, .int (iI w_shift_5))] → W p l e (headSpec (wx y_So_signed b_So_signed 8 (some .long)) { frames := 1, cells := 0, slots := 0, locals := 21 }).room s m ([.ref aSo, .int (iI v_bits)] : List Value).toArray below meth c H locs 0 0 (MX below (XQ G classes A (fun o w1 => ozp R9 (fun x9 => (KSo.Ok x9.1) ∧ o = .returned (some (.long x9.2)) ∧ w1 = [(aSo, .inr (3, [.ref aTp, .int (iI x9.1.at_), .int (iI x9.1.limit), .int (bI x9.1.failed)])), (aTp, .inl (cB, 2000, .inl x9.1.bytes))]) (fun _ => False))) ([.ref aSo, .int (iI v_bits)] : List Value).toArray s 0 0 A) (F0 m 5 ls []) := by
    intro n_1
    induction n_1 with
    | zero => intro zSo_3 w_value_4 w_shift_5  hzSo_3 hw_shift_5 hf; exact absurd hf.symm hnb
    | succ n_1 ih_5 =>
      intro zSo_3 w_value_4 w_shift_5  hzSo_3 hw_shift_5 hf H_11 locs_11 hP_11 hD_11 hS_11 ls hl
      clear hS hD hP
      rw [L5_So_signed.eq_2] at hf
      refine lv_iload hx hb d_So_signed_5 (lv_at hl 3 rfl) ?_
      refine lv_iload_n hx hb d_So_signed_7 rfl (lv_at hl 1 rfl) ?_
      refine lv_icmp_ge (tgt := 94) hx hb d_So_signed_8 (by decide) (fun c_6 => ?_) (fun c_6 => ?_)
      · have c_6 := ((zv_le (iI_t hv_bits) (iI_t hw_shift_5))).mp c_6
        replace hf := ifp c_6 hf
        refine lv_aload_n hx hb d_So_signed_94 rfl (lv_at hl 0 rfl) ?_
        refine lv_iconst (v := iI 1) hx hb d_So_signed_95 (by decide) ?_
        refine W.eq (g2 := F0 m 96 ls [.int (bI true), .ref aSo]) (by rfl) ?_
        refine va_put (D := G) (ci := 3) (v := .int (bI true)) (ty := .boolean) (C := R_So) (T := F_So) (N := 4) hx hb hts i_So t_So t_So_ok n_So hown hK hP_11 hD_11 hS_11 0 rfl rfl 3 (by decide) (hts _ m_51) (fun _ h9 => h9) rfl (by decide +kernel) (bI_nar _) (bI_fit _) (Nat.le_of_ble_eq_true rfl) d_So_signed_96 (fun H_12 locs_12 hP_12 hD_12 hS_12 => ?_)
        clear hS_11 hD_11 hP_11
        replace hP_12 : va_P G classes [(aSo, .inr (3, [.ref aTp, .int (iI zSo_3.at_), .int (iI zSo_3.limit), .int (bI true)])), (aTp, .inl (cB, 2000, .inl zSo_3.bytes))] H_12 := hP_12
        replace hD_12 : va_D A [(aSo, .inr (3, [.ref aTp, .int (iI zSo_3.at_), .int (iI zSo_3.limit), .int (bI true)])), (aTp, .inl (cB, 2000, .inl zSo_3.bytes))] := hD_12
        refine lv_lconst (v := 0) hx hb d_So_signed_99 (by decide) ?_
        exact ex_W (fun _ h => ex_mq h) (W.lret (v := 0) hx hb hr (fun t ht hW => ⟨⟨_, ozr hf ⟨(KSo.Ok.mk hzSo_3.at_ hzSo_3.limit : KSo.Ok (KSo.mk zSo_3.at_ zSo_3.limit true zSo_3.bytes)), rfl, rfl⟩, by rw [ht]; exact hP_12, hD_12⟩, hS_12.F ht⟩) hS_12.2.2 d_So_signed_100)
      · have c_6 := (fun q9 => c_6 (((zv_le (iI_t hv_bits) (iI_t hw_shift_5))).mpr q9))
        replace hf := ifn c_6 hf
        refine lv_aload_n hx hb d_So_signed_11 rfl (lv_at hl 0 rfl) ?_
        replace hf := obE hnb hf
        obtain ⟨x_7, e_8, hf⟩ := hf
        refine xx_callV (wc := [(aSo, .inr (3, [.ref aTp, .int (iI zSo_3.at_), .int (iI zSo_3.limit), .int (bI zSo_3.failed)])), (aTp, .inl (cB, 2000, .inl zSo_3.bytes))]) (wr := []) (As := []) (rest := []) ⟨hx, hb, hml, hown, hts⟩ xE_st hK hE hA (k_So_octet l htr G cB cI cJ cZ cG aSo aTp zSo_3 hzSo_3 (.ret x_7) e_8 ret_nb _) (xw_V 0 hts m_600 m_601 m_602 m_3 m_603 (by decide +kernel) ⟨(Nat.le_of_ble_eq_true rfl), (Nat.le_of_ble_eq_true rfl)⟩) hP_11 hD_11 hS_11 [0, 1] [] rfl rfl (by decide +kernel) (by decide +kernel) (by decide +kernel) 0 3 rfl rfl rfl rfl hl.1 rfl (Nat.le_of_ble_eq_true rfl) d_So_signed_12 ⟨(Nat.le_of_ble_eq_true rfl), (Nat.le_of_ble_eq_true rfl)⟩ (fun v9 w9 H_13 locs_13 hp hP_13 hD_13 hS_13 => ?_) (fun x9 w9 H9 l9 hp _ _ _ => absurd hp (fun q9 => by obtain ⟨-, ho, -⟩ := q9; cases ho))
        clear hS_11 hD_11 hP_11
        obtain ⟨hx_7, ho, rfl⟩ := hp
        cases ho
        replace hP_13 : va_P G classes [(aSo, .inr (3, [.ref aTp, .int (iI x_7.1.at_), .int (iI x_7.1.limit), .int (bI x_7.1.failed)])), (aTp, .inl (cB, 2000, .inl x_7.1.bytes))] H_13 := hP_13
        replace hD_13 : va_D A [(aSo, .inr (3, [.ref aTp, .int (iI x_7.1.at_), .int (iI x_7.1.limit), .int (bI x_7.1.failed)])), (aTp, .inl (cB, 2000, .inl x_7.1.bytes))] := hD_13
        refine lv_istore (lv' := [(5, .int (iI x_7.2)), (0, .ref aSo), (1, .int (iI v_bits)), (2, .long w_value_4), (4, .int (iI w_shift_5))]) hx hb d_So_signed_15 hl (by decide) rfl (fun ls hl => ?_)
        refine lv_iload hx hb d_So_signed_17 (lv_at hl 0 rfl) ?_
        refine lv_sipush (v := iI 128) hx hb d_So_signed_19 (by decide) ?_
        refine lv_icmp_ge (tgt := 76) hx hb d_So_signed_22 (by decide) (fun c_9 => ?_) (fun c_9 => ?_)
        · have c_9 := ((zv_le (iI_t (show R32 (128) by decide)) (iI_t hx_7.2))).mp c_9
          replace hf := ifp c_9 hf
          refine lv_lload_n hx hb d_So_signed_76 rfl (lv_at hl 3 rfl) ?_
          refine lv_iload hx hb d_So_signed_77 (lv_at hl 0 rfl) ?_
          refine lv_bipush (v := iI 127) hx hb d_So_signed_79 (by decide) ?_
          refine lv_iand hx hb d_So_signed_81 ?_
          refine lv_i2l hx hb d_So_signed_82 rfl ?_
          refine lv_iload hx hb d_So_signed_83 (lv_at hl 4 rfl) ?_
          refine lv_lshl hx hb d_So_signed_85 rfl ?_
          refine lv_lor hx hb d_So_signed_86 ?_
          refine lv_lstore_n (lv' := [(2, .long (w_value_4 ||| ((((iI x_7.2) &&& (iI 127)).toInt64) <<< ((iI w_shift_5).toInt64 &&& 63)))), (5, .int (iI x_7.2)), (0, .ref aSo), (1, .int (iI v_bits)), (4, .int (iI w_shift_5))]) hx hb d_So_signed_87 rfl hl (by decide) rfl (fun ls hl => ?_)
          replace hf := grd hnb hf
          obtain ⟨g_10, hf⟩ := hf
          refine lv_iinc (v := iI (w_shift_5 + 7)) (lv' := [(4, .int (iI (w_shift_5 + 7))), (2, .long (w_value_4 ||| ((((iI x_7.2) &&& (iI 127)).toInt64) <<< ((iI w_shift_5).toInt64 &&& 63)))), (5, .int (iI x_7.2)), (0, .ref aSo), (1, .int (iI v_bits))]) hx hb d_So_signed_88 hl (k := 4) rfl (iI_add _ 7) (by decide) rfl (fun ls hl => ?_)
          refine lv_goto (tgt := 5) hx hb d_So_signed_91 (by decide) ?_
          exact ih_5 x_7.1 (w_value_4 ||| ((((iI x_7.2) &&& (iI 127)).toInt64) <<< ((iI w_shift_5).toInt64 &&& 63))) (w_shift_5 + 7) hx_7.1 g_10 hf _ _ hP_13 hD_13 hS_13 _ (lv_sub hl [3, 4, 1, 0] rfl)
        · have c_9 := (fun q9 => c_9 (((zv_le (iI_t (show R32 (128) by decide)) (iI_t hx_7.2))).mpr q9))
          replace hf := ifn c_9 hf
          refine lv_iload hx hb d_So_signed_25 (lv_at hl 0 rfl) ?_
          refine lv_bipush (v := iI 25) hx hb d_So_signed_27 (by decide) ?_
          refine lv_ishl hx hb d_So_signed_29 ?_
          refine lv_bipush (v := iI 25) hx hb d_So_signed_30 (by decide) ?_
          refine lv_ishr hx hb d_So_signed_32 ?_
          refine W.eq (g2 := F0 m 33 ls [.int (iI ((((iI x_7.2) <<< ((iI 25) &&& 31)) >>> ((iI 25) &&& 31)).toInt))]) (by rw [← iI_of (((iI x_7.2) <<< ((iI 25) &&& 31)) >>> ((iI 25) &&& 31))] <;> rfl) ?_
          refine lv_istore (lv' := [(6, .int (iI ((((iI x_7.2) <<< ((iI 25) &&& 31)) >>> ((iI 25) &&& 31)).toInt))), (5, .int (iI x_7.2)), (0, .ref aSo), (1, .int (iI v_bits)), (2, .long w_value_4), (4, .int (iI w_shift_5))]) hx hb d_So_signed_33 hl (by decide) rfl (fun ls hl => ?_)
          refine lv_iload hx hb d_So_signed_35 (lv_at hl 0 rfl) ?_
          refine lv_bipush (v := iI 7) hx hb d_So_signed_37 (by decide) ?_
          refine lv_iload_n hx hb d_So_signed_39 rfl (lv_at hl 3 rfl) ?_
          refine lv_iload hx hb d_So_signed_40 (lv_at hl 5 rfl) ?_
          refine lv_isub hx hb d_So_signed_42 ?_
          refine lv_topi (fun x9 e9 => ?_)
          obtain rfl : x9 = iI (v_bits - w_shift_5) := e9.trans (iI_sub _ _)
          replace hf := grd hnb hf
          obtain ⟨g_11, hf⟩ := hf
          refine va_mmin hx hb (hml.trans hl.1.symm) hown (hts _ m_680) (hts _ m_681) (hts _ m_19) (hts _ m_682) (Nat.le_of_ble_eq_true rfl) (Nat.le_of_ble_eq_true rfl) (Nat.le_of_ble_eq_true rfl) (Nat.le_of_ble_eq_true rfl) d_So_signed_43 ?_
          refine lv_topi (fun x9 e9 => ?_)
          obtain rfl : x9 = iI (mnZ 7 (v_bits - w_shift_5)) := e9.trans (mnZ_i (show R32 (7) by decide) g_11)
          refine lv_iconst (v := iI 1) hx hb d_So_signed_46 (by decide) ?_
          refine lv_isub hx hb d_So_signed_47 ?_
          refine lv_topi (fun x9 e9 => ?_)
          obtain rfl : x9 = iI ((mnZ 7 (v_bits - w_shift_5)) - 1) := e9.trans (iI_sub _ _)
          replace hf := grd hnb hf
          obtain ⟨g_12, hf⟩ := hf
          refine lv_ishr hx hb d_So_signed_48 ?_
          refine W.eq (g2 := F0 m 49 ls [.int (iI (((iI ((((iI x_7.2) <<< ((iI 25) &&& 31)) >>> ((iI 25) &&& 31)).toInt)) >>> ((iI ((mnZ 7 (v_bits - w_shift_5)) - 1)) &&& 31)).toInt))]) (by rw [← iI_of ((iI ((((iI x_7.2) <<< ((iI 25) &&& 31)) >>> ((iI 25) &&& 31)).toInt)) >>> ((iI ((mnZ 7 (v_bits - w_shift_5)) - 1)) &&& 31))] <;> rfl) ?_
          refine lv_istore (lv' := [(7, .int (iI (((iI ((((iI x_7.2) <<< ((iI 25) &&& 31)) >>> ((iI 25) &&& 31)).toInt)) >>> ((iI ((mnZ 7 (v_bits - w_shift_5)) - 1)) &&& 31)).toInt))), (6, .int (iI ((((iI x_7.2) <<< ((iI 25) &&& 31)) >>> ((iI 25) &&& 31)).toInt))), (5, .int (iI x_7.2)), (0, .ref aSo), (1, .int (iI v_bits)), (2, .long w_value_4), (4, .int (iI w_shift_5))]) hx hb d_So_signed_49 hl (by decide) rfl (fun ls hl => ?_)
          refine lv_iload hx hb d_So_signed_51 (lv_at hl 0 rfl) ?_
          refine jpE hf (fun K_14 hK_14 hf9 => ?_)
          replace hf := hf9
          clear hf9
          have hJK_14 : ∀ (y_13 : KSo), KSo.Ok y_13 → K_14 y_13 = R9 → ∀ (H_13 : Heap) (locs_13 : List Loc), va_P G classes [(aSo, .inr (3, [.ref aTp, .int (iI y_13.at_), .int (iI y_13.limit), .int (bI y_13.failed)])), (aTp, .inl (cB, 2000, .inl y_13.bytes))] H_13 → va_D A [(aSo, .inr (3, [.ref aTp, .int (iI y_13.at_), .int (iI y_13.limit), .int (bI y_13.failed)])), (aTp, .inl (cB, 2000, .inl y_13.bytes))] → va_S A s.heap H_13 locs_13 → ∀ (ls : Array Slot), lv_has ls 8 [(0, .ref aSo), (1, .int (iI v_bits)), (2, .long w_value_4), (4, .int (iI w_shift_5)), (5, .int (iI x_7.2)), (6, .int (iI ((((iI x_7.2) <<< ((iI 25) &&& 31)) >>> ((iI 25) &&& 31)).toInt))), (7, .int (iI (((iI ((((iI x_7.2) <<< ((iI 25) &&& 31)) >>> ((iI 25) &&& 31)).toInt)) >>> ((iI ((mnZ 7 (v_bits - w_shift_5)) - 1)) &&& 31)).toInt)))] → W p l e (headSpec (wx y_So_signed b_So_signed 8 (some .long)) { frames := 1, cells := 0, slots := 0, locals := 21 }).room s m ([.ref aSo, .int (iI v_bits)] : List Value).toArray below meth c H_13 locs_13 0 0 (MX below (XQ G classes A (fun o w1 => ozp R9 (fun x9 => (KSo.Ok x9.1) ∧ o = .returned (some (.long x9.2)) ∧ w1 = [(aSo, .inr (3, [.ref aTp, .int (iI x9.1.at_), .int (iI x9.1.limit), .int (bI x9.1.failed)])), (aTp, .inl (cB, 2000, .inl x9.1.bytes))]) (fun _ => False))) ([.ref aSo, .int (iI v_bits)] : List Value).toArray s 0 0 A) (F0 m 67 ls []) := by
            intro y_13 hy_13 hf H_15 locs_15 hP_15 hD_15 hS_15 ls hl
            clear hS_13 hD_13 hP_13
            replace hf := (congrFun hK_14 y_13).symm.trans hf
            clear hK_14
            refine lv_lload_n hx hb d_So_signed_67 rfl (lv_at hl 2 rfl) ?_
            refine lv_iload hx hb d_So_signed_68 (lv_at hl 5 rfl) ?_
            refine lv_i2l hx hb d_So_signed_70 rfl ?_
            refine lv_iload hx hb d_So_signed_71 (lv_at hl 3 rfl) ?_
            refine lv_lshl hx hb d_So_signed_73 rfl ?_
            refine lv_lor hx hb d_So_signed_74 ?_
            exact ex_W (fun _ h => ex_mq h) (W.lret (v := w_value_4 ||| (((iI ((((iI x_7.2) <<< ((iI 25) &&& 31)) >>> ((iI 25) &&& 31)).toInt)).toInt64) <<< ((iI w_shift_5).toInt64 &&& 63))) hx hb hr (fun t ht hW => ⟨⟨_, ozr hf ⟨hy_13, rfl, rfl⟩, by rw [ht]; exact hP_15, hD_15⟩, hS_15.F ht⟩) hS_15.2.2 d_So_signed_75)
          clear hK_14
          refine lv_if_eq (tgt := 67) hx hb d_So_signed_53 (by decide) (fun c_15 => ?_) (fun c_15 => ?_)
          · have c_15 := ((zv_eq (iI_t (R32_of _)) zero_v)).mp c_15
            replace hf := ifp c_15 hf
            exact hJK_14 x_7.1 hx_7.1 hf _ _ hP_13 hD_13 hS_13 _ (lv_sub hl [3, 4, 5, 6, 2, 1, 0] rfl)
          · have c_15 := (fun q9 => c_15 (((zv_eq (iI_t (R32_of _)) zero_v)).mpr q9))
            replace hf := ifn c_15 hf
            refine lv_iload hx hb d_So_signed_56 (lv_at hl 0 rfl) ?_
            refine lv_iconst (v := iI (-1)) hx hb d_So_signed_58 (by decide) ?_
            refine lv_icmp_eq (tgt := 67) hx hb d_So_signed_59 (by decide) (fun c_16 => ?_) (fun c_16 => ?_)
            · have c_16 := ((zv_eq (iI_t (R32_of _)) (iI_t (show R32 (-1) by decide)))).mp c_16
              replace hf := ifp c_16 hf
              exact hJK_14 x_7.1 hx_7.1 hf _ _ hP_13 hD_13 hS_13 _ (lv_sub hl [3, 4, 5, 6, 2, 1, 0] rfl)
            · have c_16 := (fun q9 => c_16 (((zv_eq (iI_t (R32_of _)) (iI_t (show R32 (-1) by decide)))).mpr q9))
              replace hf := ifn c_16 hf
              refine lv_aload_n hx hb d_So_signed_62 rfl (lv_at hl 3 rfl) ?_
              refine lv_iconst (v := iI 1) hx hb d_So_signed_63 (by decide) ?_
              refine W.eq (g2 := F0 m 64 ls [.int (bI true), .ref aSo]) (by rfl) ?_
              refine va_put (D := G) (ci := 3) (v := .int (bI true)) (ty := .boolean) (C := R_So) (T := F_So) (N := 4) hx hb hts i_So t_So t_So_ok n_So hown hK hP_13 hD_13 hS_13 0 rfl rfl 3 (by decide) (hts _ m_51) (fun _ h9 => h9) rfl (by decide +kernel) (bI_nar _) (bI_fit _) (Nat.le_of_ble_eq_true rfl) d_So_signed_64 (fun H_16 locs_16 hP_16 hD_16 hS_16 => ?_)
              clear hS_13 hD_13 hP_13
              replace hP_16 : va_P G classes [(aSo, .inr (3, [.ref aTp, .int (iI x_7.1.at_), .int (iI x_7.1.limit), .int (bI true)])), (aTp, .inl (cB, 2000, .inl x_7.1.bytes))] H_16 := hP_16
              replace hD_16 : va_D A [(aSo, .inr (3, [.ref aTp, .int (iI x_7.1.at_), .int (iI x_7.1.limit), .int (bI true)])), (aTp, .inl (cB, 2000, .inl x_7.1.bytes))] := hD_16
              exact hJK_14 (KSo.mk x_7.1.at_ x_7.1.limit true x_7.1.bytes) (KSo.Ok.mk hx_7.1.at_ hx_7.1.limit : KSo.Ok (KSo.mk x_7.1.at_ x_7.1.limit true x_7.1.bytes)) hf _ _ hP_16 hD_16 hS_16 _ (lv_sub hl [3, 4, 5, 6, 2, 1, 0] rfl)
  exact loop_5 fu zSo 0 0 hzSo (show R32 (0) by decide) hf _ _ hP hD hS _ (lv_sub hl [2, 3, 1, 0] rfl)
set_option maxHeartbeats 8000000 in
set_option maxRecDepth 100000 in
theorem k_So_open (l : Launch) (htr : l.stackTraces = false) (G : va_G) (cB cI cJ cZ cG : ClassId) (aSo : Nat) (aTp : Nat) (zSo : KSo) (hzSo : KSo.Ok zSo) (gSo : Value) (v_length : Int) (hv_length : R32 v_length) (R9 : Out Empty (KSo)) (hf : f_So_open zSo v_length = R9) (hnb : R9 ≠ .bad) (sz : Nat) : MetX l y_So_open (wx y_So_open b_So_open 3 none) { frames := 0, cells := 0, slots := 0, locals := 0 } (XP G classes (xtys cB cI cJ cZ cG) xE [.ref aSo, .ref aTp, .int (iI v_length)] [(aSo, .inr (3, [gSo, .int (iI zSo.at_), .int (iI zSo.limit), .int (bI zSo.failed)])), (aTp, .inl (cB, 2000, .inl zSo.bytes))] sz) (XQ G classes (va_A [(aSo, .inr (3, [gSo, .int (iI zSo.at_), .int (iI zSo.limit), .int (bI zSo.failed)])), (aTp, .inl (cB, 2000, .inl zSo.bytes))] sz) (fun o w1 => ozp R9 (fun x9 => (KSo.Ok x9) ∧ o = .returned none ∧ w1 = [(aSo, .inr (3, [.ref aTp, .int (iI x9.at_), .int (iI x9.limit), .int (bI x9.failed)])), (aTp, .inl (cB, 2000, .inl x9.bytes))]) (fun _ => False))) 0 0 (va_A [(aSo, .inr (3, [gSo, .int (iI zSo.at_), .int (iI zSo.limit), .int (bI zSo.failed)])), (aTp, .inl (cB, 2000, .inl zSo.bytes))] sz) := by
  refine ex_ofW (cc := b_So_open) (maxL := 3) (ret := none) (by decide) rfl ?_
  intro p e s m args below meth c s₁ B hml hno hv
  obtain ⟨rfl, hsz, hP, hK, hD0, hE⟩ := hv
  have hx := B.exec
  have hb := B.bytes
  have hr := B.returns
  have hts : ∀ w ∈ lw_good, w.before _ s = true := fun w h => atoms_spec (ws := wx y_So_open b_So_open 3 none) B.pre w (List.mem_cons_of_mem _ h)
  have hown : s.vm.findClass R_So = some m.cls := findClass_of_methodNamed B.named
  have hlocks := B.notSynchronized
  subst hsz
  have hNS := xx_nostat hP
  have hD := hD0.self (sz := s.heap.size)
  generalize hAe : va_A [(aSo, .inr (3, [gSo, .int (iI zSo.at_), .int (iI zSo.limit), .int (bI zSo.failed)])), (aTp, .inl (cB, 2000, .inl zSo.bytes))] s.heap.size = A at hD hE hNS ⊢
  have hA : ∀ q : Nat, s.heap.size ≤ q → A q := fun q h => by rw [← hAe]; exact Or.inr h
  have hS : va_S A s.heap s.heap [] := va_S.rf
  have hl := lv_entry ([.ref aSo, .ref aTp, .int (iI v_length)]) (n := 3) (Nat.le_of_ble_eq_true rfl)
  rw [lg_entry_eq]
  generalize (lg_sl ([.ref aSo, .ref aTp, .int (iI v_length)]) ++ List.replicate (3 - (lg_sl ([.ref aSo, .ref aTp, .int (iI v_length)])).length) Slot.unset).toArray = ls at hl ⊢
  have hl : lv_has ls 3 [(0, .ref aSo), (1, .ref aTp), (2, .int (iI v_length))] := hl
  unfold f_So_open at hf
  refine lv_aload_n hx hb d_So_open_0 rfl (lv_at hl 0 rfl) ?_
  refine lv_aload_n hx hb d_So_open_1 rfl (lv_at hl 1 rfl) ?_
  refine va_put (D := G) (ci := 3) (v := .ref aTp) (ty := .array .byte) (C := R_So) (T := F_So) (N := 4) hx hb hts i_So t_So t_So_ok n_So hown hK hP hD hS 0 rfl rfl 0 (by decide) (hts _ m_48) (fun _ h9 => h9) rfl (by decide +kernel) rfl rfl (Nat.le_of_ble_eq_true rfl) d_So_open_2 (fun H_1 locs_1 hP_1 hD_1 hS_1 => ?_)
  clear hS hD hP
  replace hP_1 : va_P G classes [(aSo, .inr (3, [.ref aTp, .int (iI zSo.at_), .int (iI zSo.limit), .int (bI zSo.failed)])), (aTp, .inl (cB, 2000, .inl zSo.bytes))] H_1 := hP_1
  replace hD_1 : va_D A [(aSo, .inr (3, [.ref aTp, .int (iI zSo.at_), .int (iI zSo.limit), .int (bI zSo.failed)])), (aTp, .inl (cB, 2000, .inl zSo.bytes))] := hD_1
  refine lv_aload_n hx hb d_So_open_5 rfl (lv_at hl 0 rfl) ?_
  refine lv_iconst (v := iI 0) hx hb d_So_open_6 (by decide) ?_
  refine va_put (D := G) (ci := 3) (v := .int (iI 0)) (ty := .int) (C := R_So) (T := F_So) (N := 4) hx hb hts i_So t_So t_So_ok n_So hown hK hP_1 hD_1 hS_1 0 rfl rfl 1 (by decide) (hts _ m_49) (fun _ h9 => h9) rfl (by decide +kernel) rfl rfl (Nat.le_of_ble_eq_true rfl) d_So_open_7 (fun H_2 locs_2 hP_2 hD_2 hS_2 => ?_)
  clear hS_1 hD_1 hP_1
  replace hP_2 : va_P G classes [(aSo, .inr (3, [.ref aTp, .int (iI 0), .int (iI zSo.limit), .int (bI zSo.failed)])), (aTp, .inl (cB, 2000, .inl zSo.bytes))] H_2 := hP_2
  replace hD_2 : va_D A [(aSo, .inr (3, [.ref aTp, .int (iI 0), .int (iI zSo.limit), .int (bI zSo.failed)])), (aTp, .inl (cB, 2000, .inl zSo.bytes))] := hD_2
  refine lv_aload_n hx hb d_So_open_10 rfl (lv_at hl 0 rfl) ?_
  refine lv_iload_n hx hb d_So_open_11 rfl (lv_at hl 2 rfl) ?_
  refine va_put (D := G) (ci := 3) (v := .int (iI v_length)) (ty := .int) (C := R_So) (T := F_So) (N := 4) hx hb hts i_So t_So t_So_ok n_So hown hK hP_2 hD_2 hS_2 0 rfl rfl 2 (by decide) (hts _ m_50) (fun _ h9 => h9) rfl (by decide +kernel) rfl rfl (Nat.le_of_ble_eq_true rfl) d_So_open_12 (fun H_3 locs_3 hP_3 hD_3 hS_3 => ?_)
  clear hS_2 hD_2 hP_2
  replace hP_3 : va_P G classes [(aSo, .inr (3, [.ref aTp, .int (iI 0), .int (iI v_length), .int (bI zSo.failed)])), (aTp, .inl (cB, 2000, .inl zSo.bytes))] H_3 := hP_3
  replace hD_3 : va_D A [(aSo, .inr (3, [.ref aTp, .int (iI 0), .int (iI v_length), .int (bI zSo.failed)])), (aTp, .inl (cB, 2000, .inl zSo.bytes))] := hD_3
  refine lv_aload_n hx hb d_So_open_15 rfl (lv_at hl 0 rfl) ?_
  refine lv_iconst (v := iI 0) hx hb d_So_open_16 (by decide) ?_
  refine W.eq (g2 := F0 m 17 ls [.int (bI false), .ref aSo]) (by rfl) ?_
  refine va_put (D := G) (ci := 3) (v := .int (bI false)) (ty := .boolean) (C := R_So) (T := F_So) (N := 4) hx hb hts i_So t_So t_So_ok n_So hown hK hP_3 hD_3 hS_3 0 rfl rfl 3 (by decide) (hts _ m_51) (fun _ h9 => h9) rfl (by decide +kernel) (bI_nar _) (bI_fit _) (Nat.le_of_ble_eq_true rfl) d_So_open_17 (fun H_4 locs_4 hP_4 hD_4 hS_4 => ?_)
  clear hS_3 hD_3 hP_3
  replace hP_4 : va_P G classes [(aSo, .inr (3, [.ref aTp, .int (iI 0), .int (iI v_length), .int (bI false)])), (aTp, .inl (cB, 2000, .inl zSo.bytes))] H_4 := hP_4
  replace hD_4 : va_D A [(aSo, .inr (3, [.ref aTp, .int (iI 0), .int (iI v_length), .int (bI false)])), (aTp, .inl (cB, 2000, .inl zSo.bytes))] := hD_4
  exact ex_W (fun _ h => ex_mq h) (W.vret hx hb hr (fun t ht hW => ⟨⟨_, ozr hf ⟨(KSo.Ok.mk (show R32 (0) by decide) hv_length : KSo.Ok (KSo.mk 0 v_length false zSo.bytes)), rfl, rfl⟩, by rw [ht]; exact hP_4, hD_4⟩, hS_4.F ht⟩) hS_4.2.2 d_So_open_20)
