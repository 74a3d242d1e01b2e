abbrev b_So_unsigned : ByteArray := prog_10_method_10_code
def y_So_unsigned : MethodName := ⟨R_So, "unsigned", "(J)J"⟩
abbrev b_So_narrow : ByteArray := prog_10_method_12_code
def y_So_narrow : MethodName := ⟨R_So, "narrow", "()I"⟩
theorem d_So_unsigned_0 : decode b_So_unsigned 0 = .ok (.lconst 0, 1) := by decide +kernel
theorem d_So_unsigned_1 : decode b_So_unsigned 1 = .ok (.lstore_n 3, 1) := by decide +kernel
theorem d_So_unsigned_2 : decode b_So_unsigned 2 = .ok (.iconst 0, 1) := by decide +kernel
theorem d_So_unsigned_3 : decode b_So_unsigned 3 = .ok (.istore 5, 2) := by decide +kernel
theorem d_So_unsigned_5 : decode b_So_unsigned 5 = .ok (.iload 5, 2) := by decide +kernel
theorem d_So_unsigned_7 : decode b_So_unsigned 7 = .ok (.iconst 5, 1) := by decide +kernel
theorem d_So_unsigned_8 : decode b_So_unsigned 8 = .ok (.if_icmp .ge 62, 3) := by decide +kernel
theorem d_So_unsigned_11 : decode b_So_unsigned 11 = .ok (.aload_n 0, 1) := by decide +kernel
theorem d_So_unsigned_12 : decode b_So_unsigned 12 = .ok (.invokevirtual 26, 3) := by decide +kernel
theorem d_So_unsigned_15 : decode b_So_unsigned 15 = .ok (.istore 6, 2) := by decide +kernel
theorem d_So_unsigned_17 : decode b_So_unsigned 17 = .ok (.lload_n 3, 1) := by decide +kernel
theorem d_So_unsigned_18 : decode b_So_unsigned 18 = .ok (.iload 6, 2) := by decide +kernel
theorem d_So_unsigned_20 : decode b_So_unsigned 20 = .ok (.bipush 127, 2) := by decide +kernel
theorem d_So_unsigned_22 : decode b_So_unsigned 22 = .ok (.iand, 1) := by decide +kernel
theorem d_So_unsigned_23 : decode b_So_unsigned 23 = .ok (.i2l, 1) := by decide +kernel
theorem d_So_unsigned_24 : decode b_So_unsigned 24 = .ok (.bipush 7, 2) := by decide +kernel
theorem d_So_unsigned_26 : decode b_So_unsigned 26 = .ok (.iload 5, 2) := by decide +kernel
theorem d_So_unsigned_28 : decode b_So_unsigned 28 = .ok (.imul, 1) := by decide +kernel
theorem d_So_unsigned_29 : decode b_So_unsigned 29 = .ok (.lshl, 1) := by decide +kernel
theorem d_So_unsigned_30 : decode b_So_unsigned 30 = .ok (.lor, 1) := by decide +kernel
theorem d_So_unsigned_31 : decode b_So_unsigned 31 = .ok (.lstore_n 3, 1) := by decide +kernel
theorem d_So_unsigned_32 : decode b_So_unsigned 32 = .ok (.iload 6, 2) := by decide +kernel
theorem d_So_unsigned_34 : decode b_So_unsigned 34 = .ok (.sipush 128, 3) := by decide +kernel
theorem d_So_unsigned_37 : decode b_So_unsigned 37 = .ok (.if_icmp .ge 27, 3) := by decide +kernel
theorem d_So_unsigned_40 : decode b_So_unsigned 40 = .ok (.lload_n 3, 1) := by decide +kernel
theorem d_So_unsigned_41 : decode b_So_unsigned 41 = .ok (.lload_n 1, 1) := by decide +kernel
theorem d_So_unsigned_42 : decode b_So_unsigned 42 = .ok (.lcmp, 1) := by decide +kernel
theorem d_So_unsigned_43 : decode b_So_unsigned 43 = .ok (.ifCond .le 8, 3) := by decide +kernel
theorem d_So_unsigned_46 : decode b_So_unsigned 46 = .ok (.aload_n 0, 1) := by decide +kernel
theorem d_So_unsigned_47 : decode b_So_unsigned 47 = .ok (.iconst 1, 1) := by decide +kernel
theorem d_So_unsigned_48 : decode b_So_unsigned 48 = .ok (.putfield 22, 3) := by decide +kernel
theorem d_So_unsigned_51 : decode b_So_unsigned 51 = .ok (.aload_n 0, 1) := by decide +kernel
theorem d_So_unsigned_52 : decode b_So_unsigned 52 = .ok (.getfield 22, 3) := by decide +kernel
theorem d_So_unsigned_55 : decode b_So_unsigned 55 = .ok (.ifCond .eq 7, 3) := by decide +kernel
theorem d_So_unsigned_58 : decode b_So_unsigned 58 = .ok (.lconst 0, 1) := by decide +kernel
theorem d_So_unsigned_59 : decode b_So_unsigned 59 = .ok (.goto 4, 3) := by decide +kernel
theorem d_So_unsigned_62 : decode b_So_unsigned 62 = .ok (.lload_n 3, 1) := by decide +kernel
theorem d_So_unsigned_63 : decode b_So_unsigned 63 = .ok (.lreturn, 1) := by decide +kernel
theorem d_So_unsigned_64 : decode b_So_unsigned 64 = .ok (.iinc 5 1, 3) := by decide +kernel
theorem d_So_unsigned_67 : decode b_So_unsigned 67 = .ok (.goto (-62), 3) := by decide +kernel
theorem d_So_unsigned_70 : decode b_So_unsigned 70 = .ok (.aload_n 0, 1) := by decide +kernel
theorem d_So_unsigned_71 : decode b_So_unsigned 71 = .ok (.iconst 1, 1) := by decide +kernel
theorem d_So_unsigned_72 : decode b_So_unsigned 72 = .ok (.putfield 22, 3) := by decide +kernel
theorem d_So_unsigned_75 : decode b_So_unsigned 75 = .ok (.lconst 0, 1) := by decide +kernel
theorem d_So_unsigned_76 : decode b_So_unsigned 76 = .ok (.lreturn, 1) := by decide +kernel
theorem d_So_narrow_0 : decode b_So_narrow 0 = .ok (.aload_n 0, 1) := by decide +kernel
theorem d_So_narrow_1 : decode b_So_narrow 1 = .ok (.getfield 19, 3) := by decide +kernel
theorem d_So_narrow_4 : decode b_So_narrow 4 = .ok (.istore_n 1, 1) := by decide +kernel
theorem d_So_narrow_5 : decode b_So_narrow 5 = .ok (.aload_n 0, 1) := by decide +kernel
theorem d_So_narrow_6 : decode b_So_narrow 6 = .ok (.ldc2_w 36, 3) := by decide +kernel
theorem d_So_narrow_9 : decode b_So_narrow 9 = .ok (.invokevirtual 38, 3) := by decide +kernel
theorem d_So_narrow_12 : decode b_So_narrow 12 = .ok (.lstore_n 2, 1) := by decide +kernel
theorem d_So_narrow_13 : decode b_So_narrow 13 = .ok (.lload_n 2, 1) := by decide +kernel
theorem d_So_narrow_14 : decode b_So_narrow 14 = .ok (.aload_n 0, 1) := by decide +kernel
theorem d_So_narrow_15 : decode b_So_narrow 15 = .ok (.getfield 19, 3) := by decide +kernel
theorem d_So_narrow_18 : decode b_So_narrow 18 = .ok (.aload_n 0, 1) := by decide +kernel
theorem d_So_narrow_19 : decode b_So_narrow 19 = .ok (.getfield 15, 3) := by decide +kernel
theorem d_So_narrow_22 : decode b_So_narrow 22 = .ok (.isub, 1) := by decide +kernel
theorem d_So_narrow_23 : decode b_So_narrow 23 = .ok (.i2l, 1) := by decide +kernel
theorem d_So_narrow_24 : decode b_So_narrow 24 = .ok (.lcmp, 1) := by decide +kernel
theorem d_So_narrow_25 : decode b_So_narrow 25 = .ok (.ifCond .le 11, 3) := by decide +kernel
theorem d_So_narrow_28 : decode b_So_narrow 28 = .ok (.aload_n 0, 1) := by decide +kernel
theorem d_So_narrow_29 : decode b_So_narrow 29 = .ok (.iconst 1, 1) := by decide +kernel
theorem d_So_narrow_30 : decode b_So_narrow 30 = .ok (.putfield 22, 3) := by decide +kernel
theorem d_So_narrow_33 : decode b_So_narrow 33 = .ok (.goto 14, 3) := by decide +kernel
theorem d_So_narrow_36 : decode b_So_narrow 36 = .ok (.aload_n 0, 1) := by decide +kernel
theorem d_So_narrow_37 : decode b_So_narrow 37 = .ok (.aload_n 0, 1) := by decide +kernel
theorem d_So_narrow_38 : decode b_So_narrow 38 = .ok (.getfield 15, 3) := by decide +kernel
theorem d_So_narrow_41 : decode b_So_narrow 41 = .ok (.lload_n 2, 1) := by decide +kernel
theorem d_So_narrow_42 : decode b_So_narrow 42 = .ok (.l2i, 1) := by decide +kernel
theorem d_So_narrow_43 : decode b_So_narrow 43 = .ok (.iadd, 1) := by decide +kernel
theorem d_So_narrow_44 : decode b_So_narrow 44 = .ok (.putfield 19, 3) := by decide +kernel
theorem d_So_narrow_47 : decode b_So_narrow 47 = .ok (.iload_n 1, 1) := by decide +kernel
theorem d_So_narrow_48 : decode b_So_narrow 48 = .ok (.ireturn, 1) := by decide +kernel
theorem m_624 : Cond.constantLong R_So 36 4294967295 ∈ lw_good := lw_in (List.mem_append_right _ (List.mem_of_getElem? (i := 624) (by decide +kernel))) (by decide +kernel)
theorem m_625 : Cond.methodLink R_So 38 y_So_unsigned ∈ lw_good := lw_in (List.mem_append_right _ (List.mem_of_getElem? (i := 625) (by decide +kernel))) (by decide +kernel)
theorem m_626 : Cond.instanceMethod y_So_unsigned ∈ lw_good := lw_in (List.mem_append_right _ (List.mem_of_getElem? (i := 626) (by decide +kernel))) (by decide +kernel)
theorem m_627 : Cond.selects R_So y_So_unsigned y_So_unsigned ∈ lw_good := lw_in (List.mem_append_right _ (List.mem_of_getElem? (i := 627) (by decide +kernel))) (by decide +kernel)
theorem m_628 : Cond.code y_So_unsigned b_So_unsigned 7 (some .long) ∈ lw_good := lw_in (List.mem_append_right _ (List.mem_of_getElem? (i := 628) (by decide +kernel))) (by decide +kernel)
set_option maxHeartbeats 8000000 in
set_option maxRecDepth 100000 in
theorem k_So_unsigned (l : Launch) (htr : l.stackTraces = false) (G : va_G) (cB cI cJ cZ cG : ClassId) (aSo : Nat) (aTp : Nat) (zSo : KSo) (hzSo : KSo.Ok zSo) (v_most : Int64) (fu : Nat) (R9 : Out Empty (KSo × Int64)) (hf : f_So_unsigned fu zSo v_most = R9) (hnb : R9 ≠ .bad) (sz : Nat) : MetX l y_So_unsigned (wx y_So_unsigned b_So_unsigned 7 (some .long)) { frames := 1, cells := 0, slots := 0, locals := 21 } (XP G classes (xtys cB cI cJ cZ cG) xE [.ref aSo, .long v_most] [(aSo, .inr (3, [.ref aTp, .int (iI zSo.at_), .int (iI zSo.limit), .int (bI zSo.failed)])), (aTp, .inl (cB, 2000, .inl zSo.bytes))] sz) (XQ G classes (va_A [(aSo, .inr (3, [.ref aTp, .int (iI zSo.at_), .int (iI zSo.limit), .int (bI zSo.failed)])), (aTp, .inl (cB, 2000, .inl zSo.bytes))] sz) (fun o w1 => ozp R9 (fun x9 => (KSo.Ok x9.1) ∧ o = .returned (some (.long x9.2)) ∧ w1 = [(aSo, .inr (3, [.ref aTp, .int (iI x9.1.at_), .int (iI x9.1.limit), .int (bI x9.1.failed)])), (aTp, .inl (cB, 2000, .inl x9.1.bytes))]) (fun _ => False))) 0 0 (va_A [(aSo, .inr (3, [.ref aTp, .int (iI zSo.at_), .int (iI zSo.limit), .int (bI zSo.failed)])), (aTp, .inl (cB, 2000, .inl zSo.bytes))] sz) := by
  refine ex_ofW (cc := b_So_unsigned) (maxL := 7) (ret := (some .long)) (by decide) rfl ?_
  intro p e s m args below meth c s₁ B hml hno hv
  obtain ⟨rfl, hsz, hP, hK, hD0, hE⟩ := hv
  have hx := B.exec
  have hb := B.bytes
  have hr := B.returns
  have hts : ∀ w ∈ lw_good, w.before _ s = true := fun w h => atoms_spec (ws := wx y_So_unsigned b_So_unsigned 7 (some .long)) B.pre w (List.mem_cons_of_mem _ h)
  have hown : s.vm.findClass R_So = some m.cls := findClass_of_methodNamed B.named
  have hlocks := B.notSynchronized
  subst hsz
  have hNS := xx_nostat hP
  have hD := hD0.self (sz := s.heap.size)
  generalize hAe : va_A [(aSo, .inr (3, [.ref aTp, .int (iI zSo.at_), .int (iI zSo.limit), .int (bI zSo.failed)])), (aTp, .inl (cB, 2000, .inl zSo.bytes))] s.heap.size = A at hD hE hNS ⊢
  have hA : ∀ q : Nat, s.heap.size ≤ q → A q := fun q h => by rw [← hAe]; exact Or.inr h
  have hS : va_S A s.heap s.heap [] := va_S.rf
  have hl := lv_entry ([.ref aSo, .long v_most]) (n := 7) (Nat.le_of_ble_eq_true rfl)
  rw [lg_entry_eq]
  generalize (lg_sl ([.ref aSo, .long v_most]) ++ List.replicate (7 - (lg_sl ([.ref aSo, .long v_most])).length) Slot.unset).toArray = ls at hl ⊢
  have hl : lv_has ls 7 [(0, .ref aSo), (1, .long v_most)] := hl
  unfold f_So_unsigned at hf
  refine lv_lconst (v := 0) hx hb d_So_unsigned_0 (by decide) ?_
  refine lv_lstore_n (lv' := [(3, .long 0), (0, .ref aSo), (1, .long v_most)]) hx hb d_So_unsigned_1 rfl hl (by decide) rfl (fun ls hl => ?_)
  refine lv_iconst (v := iI 0) hx hb d_So_unsigned_2 (by decide) ?_
  refine lv_istore (lv' := [(5, .int (iI 0)), (3, .long 0), (0, .ref aSo), (1, .long v_most)]) hx hb d_So_unsigned_3 hl (by decide) rfl (fun ls hl => ?_)
  have loop_5 : ∀ (n_1 : Nat) (zSo_3 : KSo) (w_value_4 : Int64) (w_k_5 : Int), KSo.Ok zSo_3 → R32 w_k_5 → L5_So_unsigned fu v_most n_1 zSo_3 w_value_4 w_k_5 = R9 → ∀ (H : Heap) (locs : List Loc), va_P G classes [(aSo, .inr (3, [.ref aTp, .int (iI zSo_3.at_), .int (iI zSo_3.limit), .int (bI zSo_3.failed)])), (aTp, .inl (cB, 2000, .inl zSo_3.bytes))] H → va_D A [(aSo, .inr (3, [.ref aTp, .int (iI zSo_3.at_), .int (iI zSo_3.limit), .int (bI zSo_3.failed)])), (aTp, .inl (cB, 2000, .inl zSo_3.bytes))] → va_S A s.heap H locs → ∀ (ls : Array Slot), lv_has ls 7 [(0, .ref aSo), (1, .long v_most), (3, .long w_value_4), (5, .int (iI w_k_5))] → W p l e (headSpec (wx y_So_unsigned b_So_unsigned 7 (some .long)) { frames := 1, cells := 0, slots := 0, locals := 21 }).room s m ([.ref aSo, .long v_most] : List Value).toArray below meth c H locs 0 0 (MX below (XQ G classes A (fun o w1 => ozp R9 (fun x9 => (KSo.Ok x9.1) ∧ o = .returned (some (.long x9.2)) ∧ w1 = [(aSo, .inr (3, [.ref aTp, .int (iI x9.1.at_), .int (iI x9.1.limit), .int (bI x9.1.failed)])), (aTp, .inl (cB, 2000, .inl x9.1.bytes))]) (fun _ => False))) ([.ref aSo, .long v_most] : List Value).toArray s 0 0 A) (F0 m 5 ls []) := by
    intro n_1
    induction n_1 with
    | zero => intro zSo_3 w_value_4 w_k_5  hzSo_3 hw_k_5 hf; exact absurd hf.symm hnb
    | succ n_1 ih_5 =>
      intro zSo_3 w_value_4 w_k_5  hzSo_3 hw_k_5 hf H_15 locs_15 hP_15 hD_15 hS_15 ls hl
      clear hS hD hP
      rw [L5_So_unsigned.eq_2] at hf
      refine lv_iload hx hb d_So_unsigned_5 (lv_at hl 3 rfl) ?_
      refine lv_iconst (v := iI 5) hx hb d_So_unsigned_7 (by decide) ?_
      refine lv_icmp_ge (tgt := 70) hx hb d_So_unsigned_8 (by decide) (fun c_6 => ?_) (fun c_6 => ?_)
      · have c_6 := ((zv_le (iI_t (show R32 (5) by decide)) (iI_t hw_k_5))).mp c_6
        replace hf := ifp c_6 hf
        refine lv_aload_n hx hb d_So_unsigned_70 rfl (lv_at hl 0 rfl) ?_
        refine lv_iconst (v := iI 1) hx hb d_So_unsigned_71 (by decide) ?_
        refine W.eq (g2 := F0 m 72 ls [.int (bI true), .ref aSo]) (by rfl) ?_
        refine va_put (D := G) (ci := 3) (v := .int (bI true)) (ty := .boolean) (C := R_So) (T := F_So) (N := 4) hx hb hts i_So t_So t_So_ok n_So hown hK hP_15 hD_15 hS_15 0 rfl rfl 3 (by decide) (hts _ m_51) (fun _ h9 => h9) rfl (by decide +kernel) (bI_nar _) (bI_fit _) (Nat.le_of_ble_eq_true rfl) d_So_unsigned_72 (fun H_16 locs_16 hP_16 hD_16 hS_16 => ?_)
        clear hS_15 hD_15 hP_15
        replace hP_16 : va_P G classes [(aSo, .inr (3, [.ref aTp, .int (iI zSo_3.at_), .int (iI zSo_3.limit), .int (bI true)])), (aTp, .inl (cB, 2000, .inl zSo_3.bytes))] H_16 := hP_16
        replace hD_16 : va_D A [(aSo, .inr (3, [.ref aTp, .int (iI zSo_3.at_), .int (iI zSo_3.limit), .int (bI true)])), (aTp, .inl (cB, 2000, .inl zSo_3.bytes))] := hD_16
        refine lv_lconst (v := 0) hx hb d_So_unsigned_75 (by decide) ?_
        exact ex_W (fun _ h => ex_mq h) (W.lret (v := 0) hx hb hr (fun t ht hW => ⟨⟨_, ozr hf ⟨(KSo.Ok.mk hzSo_3.at_ hzSo_3.limit : KSo.Ok (KSo.mk zSo_3.at_ zSo_3.limit true zSo_3.bytes)), rfl, rfl⟩, by rw [ht]; exact hP_16, hD_16⟩, hS_16.F ht⟩) hS_16.2.2 d_So_unsigned_76)
      · have c_6 := (fun q9 => c_6 (((zv_le (iI_t (show R32 (5) by decide)) (iI_t hw_k_5))).mpr q9))
        replace hf := ifn c_6 hf
        refine lv_aload_n hx hb d_So_unsigned_11 rfl (lv_at hl 0 rfl) ?_
        replace hf := obE hnb hf
        obtain ⟨x_7, e_8, hf⟩ := hf
        refine xx_callV (wc := [(aSo, .inr (3, [.ref aTp, .int (iI zSo_3.at_), .int (iI zSo_3.limit), .int (bI zSo_3.failed)])), (aTp, .inl (cB, 2000, .inl zSo_3.bytes))]) (wr := []) (As := []) (rest := []) ⟨hx, hb, hml, hown, hts⟩ xE_st hK hE hA (k_So_octet l htr G cB cI cJ cZ cG aSo aTp zSo_3 hzSo_3 (.ret x_7) e_8 ret_nb _) (xw_V 0 hts m_600 m_601 m_602 m_3 m_603 (by decide +kernel) ⟨(Nat.le_of_ble_eq_true rfl), (Nat.le_of_ble_eq_true rfl)⟩) hP_15 hD_15 hS_15 [0, 1] [] rfl rfl (by decide +kernel) (by decide +kernel) (by decide +kernel) 0 3 rfl rfl rfl rfl hl.1 rfl (Nat.le_of_ble_eq_true rfl) d_So_unsigned_12 ⟨(Nat.le_of_ble_eq_true rfl), (Nat.le_of_ble_eq_true rfl)⟩ (fun v9 w9 H_17 locs_17 hp hP_17 hD_17 hS_17 => ?_) (fun x9 w9 H9 l9 hp _ _ _ => absurd hp (fun q9 => by obtain ⟨-, ho, -⟩ := q9; cases ho))
        clear hS_15 hD_15 hP_15
        obtain ⟨hx_7, ho, rfl⟩ := hp
        cases ho
        replace hP_17 : va_P G classes [(aSo, .inr (3, [.ref aTp, .int (iI x_7.1.at_), .int (iI x_7.1.limit), .int (bI x_7.1.failed)])), (aTp, .inl (cB, 2000, .inl x_7.1.bytes))] H_17 := hP_17
        replace hD_17 : va_D A [(aSo, .inr (3, [.ref aTp, .int (iI x_7.1.at_), .int (iI x_7.1.limit), .int (bI x_7.1.failed)])), (aTp, .inl (cB, 2000, .inl x_7.1.bytes))] := hD_17
        refine lv_istore (lv' := [(6, .int (iI x_7.2)), (0, .ref aSo), (1, .long v_most), (3, .long w_value_4), (5, .int (iI w_k_5))]) hx hb d_So_unsigned_15 hl (by decide) rfl (fun ls hl => ?_)
        refine lv_lload_n hx hb d_So_unsigned_17 rfl (lv_at hl 3 rfl) ?_
        refine lv_iload hx hb d_So_unsigned_18 (lv_at hl 0 rfl) ?_
        refine lv_bipush (v := iI 127) hx hb d_So_unsigned_20 (by decide) ?_
        refine lv_iand hx hb d_So_unsigned_22 ?_
        refine lv_i2l hx hb d_So_unsigned_23 rfl ?_
        refine lv_bipush (v := iI 7) hx hb d_So_unsigned_24 (by decide) ?_
        refine lv_iload hx hb d_So_unsigned_26 (lv_at hl 4 rfl) ?_
        refine lv_imul hx hb d_So_unsigned_28 ?_
        refine lv_topi (fun x9 e9 => ?_)
        obtain rfl : x9 = iI (7 * w_k_5) := e9.trans (iI_mul _ _)
        replace hf := grd hnb hf
        obtain ⟨g_9, hf⟩ := hf
        refine lv_lshl hx hb d_So_unsigned_29 rfl ?_
        refine lv_lor hx hb d_So_unsigned_30 ?_
        refine lv_lstore_n (lv' := [(3, .long (w_value_4 ||| ((((iI x_7.2) &&& (iI 127)).toInt64) <<< ((iI (7 * w_k_5)).toInt64 &&& 63)))), (6, .int (iI x_7.2)), (0, .ref aSo), (1, .long v_most), (5, .int (iI w_k_5))]) hx hb d_So_unsigned_31 rfl hl (by decide) rfl (fun ls hl => ?_)
        refine lv_iload hx hb d_So_unsigned_32 (lv_at hl 1 rfl) ?_
        refine lv_sipush (v := iI 128) hx hb d_So_unsigned_34 (by decide) ?_
        refine lv_icmp_ge (tgt := 64) hx hb d_So_unsigned_37 (by decide) (fun c_10 => ?_) (fun c_10 => ?_)
        · have c_10 := ((zv_le (iI_t (show R32 (128) by decide)) (iI_t hx_7.2))).mp c_10
          replace hf := ifp c_10 hf
          replace hf := grd hnb hf
          obtain ⟨g_11, hf⟩ := hf
          refine lv_iinc (v := iI (w_k_5 + 1)) (lv' := [(5, .int (iI (w_k_5 + 1))), (3, .long (w_value_4 ||| ((((iI x_7.2) &&& (iI 127)).toInt64) <<< ((iI (7 * w_k_5)).toInt64 &&& 63)))), (6, .int (iI x_7.2)), (0, .ref aSo), (1, .long v_most)]) hx hb d_So_unsigned_64 hl (k := 4) rfl (iI_add _ 1) (by decide) rfl (fun ls hl => ?_)
          refine lv_goto (tgt := 5) hx hb d_So_unsigned_67 (by decide) ?_
          exact ih_5 x_7.1 (w_value_4 ||| ((((iI x_7.2) &&& (iI 127)).toInt64) <<< ((iI (7 * w_k_5)).toInt64 &&& 63))) (w_k_5 + 1) hx_7.1 g_11 hf _ _ hP_17 hD_17 hS_17 _ (lv_sub hl [3, 4, 1, 0] rfl)
        · have c_10 := (fun q9 => c_10 (((zv_le (iI_t (show R32 (128) by decide)) (iI_t hx_7.2))).mpr q9))
          replace hf := ifn c_10 hf
          refine lv_lload_n hx hb d_So_unsigned_40 rfl (lv_at hl 0 rfl) ?_
          refine lv_lload_n hx hb d_So_unsigned_41 rfl (lv_at hl 3 rfl) ?_
          refine W.lcmp hx hb d_So_unsigned_42 ?_
          refine jpE hf (fun K_13 hK_13 hf9 => ?_)
          replace hf := hf9
          clear hf9
          have hJK_13 : ∀ (y_12 : KSo), KSo.Ok y_12 → K_13 y_12 = R9 → ∀ (H_17 : Heap) (locs_17 : List Loc), va_P G classes [(aSo, .inr (3, [.ref aTp, .int (iI y_12.at_), .int (iI y_12.limit), .int (bI y_12.failed)])), (aTp, .inl (cB, 2000, .inl y_12.bytes))] H_17 → va_D A [(aSo, .inr (3, [.ref aTp, .int (iI y_12.at_), .int (iI y_12.limit), .int (bI y_12.failed)])), (aTp, .inl (cB, 2000, .inl y_12.bytes))] → va_S A s.heap H_17 locs_17 → ∀ (ls : Array Slot), lv_has ls 7 [(0, .ref aSo), (1, .long v_most), (3, .long (w_value_4 ||| ((((iI x_7.2) &&& (iI 127)).toInt64) <<< ((iI (7 * w_k_5)).toInt64 &&& 63)))), (5, .int (iI w_k_5)), (6, .int (iI x_7.2))] → W p l e (headSpec (wx y_So_unsigned b_So_unsigned 7 (some .long)) { frames := 1, cells := 0, slots := 0, locals := 21 }).room s m ([.ref aSo, .long v_most] : List Value).toArray below meth c H_17 locs_17 0 0 (MX below (XQ G classes A (fun o w1 => ozp R9 (fun x9 => (KSo.Ok x9.1) ∧ o = .returned (some (.long x9.2)) ∧ w1 = [(aSo, .inr (3, [.ref aTp, .int (iI x9.1.at_), .int (iI x9.1.limit), .int (bI x9.1.failed)])), (aTp, .inl (cB, 2000, .inl x9.1.bytes))]) (fun _ => False))) ([.ref aSo, .long v_most] : List Value).toArray s 0 0 A) (F0 m 51 ls []) := by
            intro y_12 hy_12 hf H_20 locs_20 hP_20 hD_20 hS_20 ls hl
            clear hS_17 hD_17 hP_17
            replace hf := (congrFun hK_13 y_12).symm.trans hf
            clear hK_13
            refine lv_aload_n hx hb d_So_unsigned_51 rfl (lv_at hl 0 rfl) ?_
            refine va_get (D := G) (ci := 3) (v := .int (bI y_12.failed)) (C := R_So) (T := F_So) (N := 4) hx hb hts i_So hown hK hP_20 0 rfl rfl 3 (by decide) (hts _ m_51) (fun _ h9 => h9) rfl d_So_unsigned_52 ?_
            refine jpE hf (fun K_15 hK_15 hf9 => ?_)
            replace hf := hf9
            clear hf9
            have hJK_15 : ∀ (y_14 : Int64), True → K_15 y_14 = R9 → ∀ (H_20 : Heap) (locs_20 : List Loc), va_P G classes [(aSo, .inr (3, [.ref aTp, .int (iI y_12.at_), .int (iI y_12.limit), .int (bI y_12.failed)])), (aTp, .inl (cB, 2000, .inl y_12.bytes))] H_20 → va_D A [(aSo, .inr (3, [.ref aTp, .int (iI y_12.at_), .int (iI y_12.limit), .int (bI y_12.failed)])), (aTp, .inl (cB, 2000, .inl y_12.bytes))] → va_S A s.heap H_20 locs_20 → ∀ (ls : Array Slot), lv_has ls 7 [(0, .ref aSo), (1, .long v_most), (3, .long (w_value_4 ||| ((((iI x_7.2) &&& (iI 127)).toInt64) <<< ((iI (7 * w_k_5)).toInt64 &&& 63)))), (5, .int (iI w_k_5)), (6, .int (iI x_7.2))] → W p l e (headSpec (wx y_So_unsigned b_So_unsigned 7 (some .long)) { frames := 1, cells := 0, slots := 0, locals := 21 }).room s m ([.ref aSo, .long v_most] : List Value).toArray below meth c H_20 locs_20 0 0 (MX below (XQ G classes A (fun o w1 => ozp R9 (fun x9 => (KSo.Ok x9.1) ∧ o = .returned (some (.long x9.2)) ∧ w1 = [(aSo, .inr (3, [.ref aTp, .int (iI x9.1.at_), .int (iI x9.1.limit), .int (bI x9.1.failed)])), (aTp, .inl (cB, 2000, .inl x9.1.bytes))]) (fun _ => False))) ([.ref aSo, .long v_most] : List Value).toArray s 0 0 A) (F0 m 63 ls [.long y_14]) := by
              intro y_14 hy_14 hf H_21 locs_21 hP_21 hD_21 hS_21 ls hl
              clear hS_20 hD_20 hP_20
              replace hf := (congrFun hK_15 y_14).symm.trans hf
              clear hK_15
              exact ex_W (fun _ h => ex_mq h) (W.lret (v := y_14) hx hb hr (fun t ht hW => ⟨⟨_, ozr hf ⟨hy_12, rfl, rfl⟩, by rw [ht]; exact hP_21, hD_21⟩, hS_21.F ht⟩) hS_21.2.2 d_So_unsigned_63)
            clear hK_15
            refine lv_if_eq (tgt := 62) hx hb d_So_unsigned_55 (by decide) (fun c_16 => ?_) (fun c_16 => ?_)
            · have c_16 := (zb_f c_16)
              replace hf := ifn c_16 hf
              refine lv_lload_n hx hb d_So_unsigned_62 rfl (lv_at hl 2 rfl) ?_
              exact hJK_15 (w_value_4 ||| ((((iI x_7.2) &&& (iI 127)).toInt64) <<< ((iI (7 * w_k_5)).toInt64 &&& 63))) trivial hf _ _ hP_20 hD_20 hS_20 _ (lv_sub hl [0, 1, 2, 3, 4] rfl)
            · have c_16 := (zb_t c_16)
              replace hf := ifp c_16 hf
              refine lv_lconst (v := 0) hx hb d_So_unsigned_58 (by decide) ?_
              refine lv_goto (tgt := 63) hx hb d_So_unsigned_59 (by decide) ?_
              exact hJK_15 0 trivial hf _ _ hP_20 hD_20 hS_20 _ (lv_sub hl [0, 1, 2, 3, 4] rfl)
          clear hK_13
          refine lv_if_le (tgt := 51) hx hb d_So_unsigned_43 (by decide) (fun c_17 => ?_) (fun c_17 => ?_)
          · have c_17 := (lc_le).mp c_17
            replace hf := ifp c_17 hf
            exact hJK_13 x_7.1 hx_7.1 hf _ _ hP_17 hD_17 hS_17 _ (lv_sub hl [2, 3, 0, 4, 1] rfl)
          · have c_17 := (fun q9 => c_17 ((lc_le).mpr q9))
            replace hf := ifn c_17 hf
            refine lv_aload_n hx hb d_So_unsigned_46 rfl (lv_at hl 2 rfl) ?_
            refine lv_iconst (v := iI 1) hx hb d_So_unsigned_47 (by decide) ?_
            refine W.eq (g2 := F0 m 48 ls [.int (bI true), .ref aSo]) (by rfl) ?_
            refine va_put (D := G) (ci := 3) (v := .int (bI true)) (ty := .boolean) (C := R_So) (T := F_So) (N := 4) hx hb hts i_So t_So t_So_ok n_So hown hK hP_17 hD_17 hS_17 0 rfl rfl 3 (by decide) (hts _ m_51) (fun _ h9 => h9) rfl (by decide +kernel) (bI_nar _) (bI_fit _) (Nat.le_of_ble_eq_true rfl) d_So_unsigned_48 (fun H_22 locs_22 hP_22 hD_22 hS_22 => ?_)
            clear hS_17 hD_17 hP_17
            replace hP_22 : va_P G classes [(aSo, .inr (3, [.ref aTp, .int (iI x_7.1.at_), .int (iI x_7.1.limit), .int (bI true)])), (aTp, .inl (cB, 2000, .inl x_7.1.bytes))] H_22 := hP_22
            replace hD_22 : va_D A [(aSo, .inr (3, [.ref aTp, .int (iI x_7.1.at_), .int (iI x_7.1.limit), .int (bI true)])), (aTp, .inl (cB, 2000, .inl x_7.1.bytes))] := hD_22
            exact hJK_13 (KSo.mk x_7.1.at_ x_7.1.limit true x_7.1.bytes) (KSo.Ok.mk hx_7.1.at_ hx_7.1.limit : KSo.Ok (KSo.mk x_7.1.at_ x_7.1.limit true x_7.1.bytes)) hf _ _ hP_22 hD_22 hS_22 _ (lv_sub hl [2, 3, 0, 4, 1] rfl)
  exact loop_5 fu zSo 0 0 hzSo (show R32 (0) by decide) hf _ _ hP hD hS _ (lv_sub hl [2, 3, 1, 0] rfl)
set_option maxHeartbeats 8000000 in
set_option maxRecDepth 100000 in
theorem k_So_narrow (l : Launch) (htr : l.stackTraces = false) (G : va_G) (cB cI cJ cZ cG : ClassId) (aSo : Nat) (aTp : Nat) (zSo : KSo) (hzSo : KSo.Ok zSo) (fu : Nat) (R9 : Out Empty (KSo × Int)) (hf : f_So_narrow fu zSo = R9) (hnb : R9 ≠ .bad) (sz : Nat) : MetX l y_So_narrow (wx y_So_narrow b_So_narrow 4 (some .int)) { frames := 2, cells := 0, slots := 0, locals := 47 } (XP G classes (xtys cB cI cJ cZ cG) xE [.ref aSo] [(aSo, .inr (3, [.ref aTp, .int (iI zSo.at_), .int (iI zSo.limit), .int (bI zSo.failed)])), (aTp, .inl (cB, 2000, .inl zSo.bytes))] sz) (XQ G classes (va_A [(aSo, .inr (3, [.ref aTp, .int (iI zSo.at_), .int (iI zSo.limit), .int (bI zSo.failed)])), (aTp, .inl (cB, 2000, .inl zSo.bytes))] sz) (fun o w1 => ozp R9 (fun x9 => (KSo.Ok x9.1 ∧ R32 x9.2) ∧ o = .returned (some (.int (iI x9.2))) ∧ w1 = [(aSo, .inr (3, [.ref aTp, .int (iI x9.1.at_), .int (iI x9.1.limit), .int (bI x9.1.failed)])), (aTp, .inl (cB, 2000, .inl x9.1.bytes))]) (fun _ => False))) 0 0 (va_A [(aSo, .inr (3, [.ref aTp, .int (iI zSo.at_), .int (iI zSo.limit), .int (bI zSo.failed)])), (aTp, .inl (cB, 2000, .inl zSo.bytes))] sz) := by
  refine ex_ofW (cc := b_So_narrow) (maxL := 4) (ret := (some .int)) (by decide) rfl ?_
  intro p e s m args below meth c s₁ B hml hno hv
  obtain ⟨rfl, hsz, hP, hK, hD0, hE⟩ := hv
  have hx := B.exec
  have hb := B.bytes
  have hr := B.returns
  have hts : ∀ w ∈ lw_good, w.before _ s = true := fun w h => atoms_spec (ws := wx y_So_narrow b_So_narrow 4 (some .int)) B.pre w (List.mem_cons_of_mem _ h)
  have hown : s.vm.findClass R_So = some m.cls := findClass_of_methodNamed B.named
  have hlocks := B.notSynchronized
  subst hsz
  have hNS := xx_nostat hP
  have hD := hD0.self (sz := s.heap.size)
  generalize hAe : va_A [(aSo, .inr (3, [.ref aTp, .int (iI zSo.at_), .int (iI zSo.limit), .int (bI zSo.failed)])), (aTp, .inl (cB, 2000, .inl zSo.bytes))] s.heap.size = A at hD hE hNS ⊢
  have hA : ∀ q : Nat, s.heap.size ≤ q → A q := fun q h => by rw [← hAe]; exact Or.inr h
  have hS : va_S A s.heap s.heap [] := va_S.rf
  have hl := lv_entry ([.ref aSo]) (n := 4) (Nat.le_of_ble_eq_true rfl)
  rw [lg_entry_eq]
  generalize (lg_sl ([.ref aSo]) ++ List.replicate (4 - (lg_sl ([.ref aSo])).length) Slot.unset).toArray = ls at hl ⊢
  have hl : lv_has ls 4 [(0, .ref aSo)] := hl
  unfold f_So_narrow at hf
  refine lv_aload_n hx hb d_So_narrow_0 rfl (lv_at hl 0 rfl) ?_
  refine va_get (D := G) (ci := 3) (v := .int (iI zSo.limit)) (C := R_So) (T := F_So) (N := 4) hx hb hts i_So hown hK hP 0 rfl rfl 2 (by decide) (hts _ m_50) (fun _ h9 => h9) rfl d_So_narrow_1 ?_
  refine lv_istore_n (lv' := [(1, .int (iI zSo.limit)), (0, .ref aSo)]) hx hb d_So_narrow_4 rfl hl (by decide) rfl (fun ls hl => ?_)
  refine lv_aload_n hx hb d_So_narrow_5 rfl (lv_at hl 1 rfl) ?_
  refine lv_ldc2 (v := 4294967295) hx hb hown (hts _ m_624) d_So_narrow_6 ?_
  replace hf := obE hnb hf
  obtain ⟨x_1, e_2, hf⟩ := hf
  refine xx_callV (wc := [(aSo, .inr (3, [.ref aTp, .int (iI zSo.at_), .int (iI zSo.limit), .int (bI zSo.failed)])), (aTp, .inl (cB, 2000, .inl zSo.bytes))]) (wr := []) (As := [.long 4294967295]) (rest := []) ⟨hx, hb, hml, hown, hts⟩ xE_st hK hE hA (k_So_unsigned l htr G cB cI cJ cZ cG aSo aTp zSo hzSo 4294967295 fu (.ret x_1) e_2 ret_nb _) (xw_V 1 hts m_625 m_626 m_627 m_3 m_628 (by decide +kernel) ⟨(Nat.le_of_ble_eq_true rfl), (Nat.le_of_ble_eq_true rfl)⟩) hP hD hS [0, 1] [] rfl rfl (by decide +kernel) (by decide +kernel) (by decide +kernel) 0 3 rfl rfl rfl rfl hl.1 rfl (Nat.le_of_ble_eq_true rfl) d_So_narrow_9 ⟨(Nat.le_of_ble_eq_true rfl), (Nat.le_of_ble_eq_true rfl)⟩ (fun v9 w9 H_1 locs_1 hp hP_1 hD_1 hS_1 => ?_) (fun x9 w9 H9 l9 hp _ _ _ => absurd hp (fun q9 => by obtain ⟨-, ho, -⟩ := q9; cases ho))
  clear hS hD hP
  obtain ⟨hx_1, ho, rfl⟩ := hp
  cases ho
  replace hP_1 : va_P G classes [(aSo, .inr (3, [.ref aTp, .int (iI x_1.1.at_), .int (iI x_1.1.limit), .int (bI x_1.1.failed)])), (aTp, .inl (cB, 2000, .inl x_1.1.bytes))] H_1 := hP_1
  replace hD_1 : va_D A [(aSo, .inr (3, [.ref aTp, .int (iI x_1.1.at_), .int (iI x_1.1.limit), .int (bI x_1.1.failed)])), (aTp, .inl (cB, 2000, .inl x_1.1.bytes))] := hD_1
  refine lv_lstore_n (lv' := [(2, .long x_1.2), (1, .int (iI zSo.limit)), (0, .ref aSo)]) hx hb d_So_narrow_12 rfl hl (by decide) rfl (fun ls hl => ?_)
  refine lv_lload_n hx hb d_So_narrow_13 rfl (lv_at hl 0 rfl) ?_
  refine lv_aload_n hx hb d_So_narrow_14 rfl (lv_at hl 2 rfl) ?_
  refine va_get (D := G) (ci := 3) (v := .int (iI x_1.1.limit)) (C := R_So) (T := F_So) (N := 4) hx hb hts i_So hown hK hP_1 0 rfl rfl 2 (by decide) (hts _ m_50) (fun _ h9 => h9) rfl d_So_narrow_15 ?_
  refine lv_aload_n hx hb d_So_narrow_18 rfl (lv_at hl 2 rfl) ?_
  refine va_get (D := G) (ci := 3) (v := .int (iI x_1.1.at_)) (C := R_So) (T := F_So) (N := 4) hx hb hts i_So hown hK hP_1 0 rfl rfl 1 (by decide) (hts _ m_49) (fun _ h9 => h9) rfl d_So_narrow_19 ?_
  refine lv_isub hx hb d_So_narrow_22 ?_
  refine lv_topi (fun x9 e9 => ?_)
  obtain rfl : x9 = iI (x_1.1.limit - x_1.1.at_) := e9.trans (iI_sub _ _)
  replace hf := grd hnb hf
  obtain ⟨g_3, hf⟩ := hf
  refine lv_i2l hx hb d_So_narrow_23 rfl ?_
  refine W.lcmp hx hb d_So_narrow_24 ?_
  refine jpE hf (fun K_5 hK_5 hf9 => ?_)
  replace hf := hf9
  clear hf9
  have hJK_5 : ∀ (y_4 : KSo), KSo.Ok y_4 → K_5 y_4 = R9 → ∀ (H_1 : Heap) (locs_1 : List Loc), va_P G classes [(aSo, .inr (3, [.ref aTp, .int (iI y_4.at_), .int (iI y_4.limit), .int (bI y_4.failed)])), (aTp, .inl (cB, 2000, .inl y_4.bytes))] H_1 → va_D A [(aSo, .inr (3, [.ref aTp, .int (iI y_4.at_), .int (iI y_4.limit), .int (bI y_4.failed)])), (aTp, .inl (cB, 2000, .inl y_4.bytes))] → va_S A s.heap H_1 locs_1 → ∀ (ls : Array Slot), lv_has ls 4 [(0, .ref aSo), (1, .int (iI zSo.limit)), (2, .long x_1.2)] → W p l e (headSpec (wx y_So_narrow b_So_narrow 4 (some .int)) { frames := 2, cells := 0, slots := 0, locals := 47 }).room s m ([.ref aSo] : List Value).toArray below meth c H_1 locs_1 0 0 (MX below (XQ G classes A (fun o w1 => ozp R9 (fun x9 => (KSo.Ok x9.1 ∧ R32 x9.2) ∧ o = .returned (some (.int (iI x9.2))) ∧ w1 = [(aSo, .inr (3, [.ref aTp, .int (iI x9.1.at_), .int (iI x9.1.limit), .int (bI x9.1.failed)])), (aTp, .inl (cB, 2000, .inl x9.1.bytes))]) (fun _ => False))) ([.ref aSo] : List Value).toArray s 0 0 A) (F0 m 47 ls []) := by
    intro y_4 hy_4 hf H_4 locs_4 hP_4 hD_4 hS_4 ls hl
    clear hS_1 hD_1 hP_1
    replace hf := (congrFun hK_5 y_4).symm.trans hf
    clear hK_5
    refine lv_iload_n hx hb d_So_narrow_47 rfl (lv_at hl 1 rfl) ?_
    exact ex_W (fun _ h => ex_mq h) (W.iret (v := iI zSo.limit) hx hb hr (fun t ht hW => ⟨⟨_, ozr hf ⟨⟨hy_4, hzSo.limit⟩, rfl, rfl⟩, by rw [ht]; exact hP_4, hD_4⟩, hS_4.F ht⟩) hS_4.2.2 d_So_narrow_48)
  clear hK_5
  refine lv_if_le (tgt := 36) hx hb d_So_narrow_25 (by decide) (fun c_6 => ?_) (fun c_6 => ?_)
  · have c_6 := (lc_le).mp c_6
    replace hf := ifp c_6 hf
    refine lv_aload_n hx hb d_So_narrow_36 rfl (lv_at hl 2 rfl) ?_
    refine lv_aload_n hx hb d_So_narrow_37 rfl (lv_at hl 2 rfl) ?_
    refine va_get (D := G) (ci := 3) (v := .int (iI x_1.1.at_)) (C := R_So) (T := F_So) (N := 4) hx hb hts i_So hown hK hP_1 0 rfl rfl 1 (by decide) (hts _ m_49) (fun _ h9 => h9) rfl d_So_narrow_38 ?_
    refine lv_lload_n hx hb d_So_narrow_41 rfl (lv_at hl 0 rfl) ?_
    refine lv_l2i hx hb d_So_narrow_42 rfl ?_
    refine lv_iadd hx hb d_So_narrow_43 ?_
    refine W.eq (g2 := F0 m 44 ls [.int (iI (((iI x_1.1.at_) + x_1.2.toInt32).toInt)), .ref aSo]) (by rw [← iI_of ((iI x_1.1.at_) + x_1.2.toInt32)] <;> rfl) ?_
    refine va_put (D := G) (ci := 3) (v := .int (iI (((iI x_1.1.at_) + x_1.2.toInt32).toInt))) (ty := .int) (C := R_So) (T := F_So) (N := 4) hx hb hts i_So t_So t_So_ok n_So hown hK hP_1 hD_1 hS_1 0 rfl rfl 2 (by decide) (hts _ m_50) (fun _ h9 => h9) rfl (by decide +kernel) rfl rfl (Nat.le_of_ble_eq_true rfl) d_So_narrow_44 (fun H_5 locs_5 hP_5 hD_5 hS_5 => ?_)
    clear hS_1 hD_1 hP_1
    replace hP_5 : va_P G classes [(aSo, .inr (3, [.ref aTp, .int (iI x_1.1.at_), .int (iI (((iI x_1.1.at_) + x_1.2.toInt32).toInt)), .int (bI x_1.1.failed)])), (aTp, .inl (cB, 2000, .inl x_1.1.bytes))] H_5 := hP_5
    replace hD_5 : va_D A [(aSo, .inr (3, [.ref aTp, .int (iI x_1.1.at_), .int (iI (((iI x_1.1.at_) + x_1.2.toInt32).toInt)), .int (bI x_1.1.failed)])), (aTp, .inl (cB, 2000, .inl x_1.1.bytes))] := hD_5
    exact hJK_5 (KSo.mk x_1.1.at_ (((iI x_1.1.at_) + x_1.2.toInt32).toInt) x_1.1.failed x_1.1.bytes) (KSo.Ok.mk hx_1.at_ (R32_of _) : KSo.Ok (KSo.mk x_1.1.at_ (((iI x_1.1.at_) + x_1.2.toInt32).toInt) x_1.1.failed x_1.1.bytes)) hf _ _ hP_5 hD_5 hS_5 _ (lv_sub hl [2, 1, 0] rfl)
  · have c_6 := (fun q9 => c_6 ((lc_le).mpr q9))
    replace hf := ifn c_6 hf
    refine lv_aload_n hx hb d_So_narrow_28 rfl (lv_at hl 2 rfl) ?_
    refine lv_iconst (v := iI 1) hx hb d_So_narrow_29 (by decide) ?_
    refine W.eq (g2 := F0 m 30 ls [.int (bI true), .ref aSo]) (by rfl) ?_
    refine va_put (D := G) (ci := 3) (v := .int (bI true)) (ty := .boolean) (C := R_So) (T := F_So) (N := 4) hx hb hts i_So t_So t_So_ok n_So hown hK hP_1 hD_1 hS_1 0 rfl rfl 3 (by decide) (hts _ m_51) (fun _ h9 => h9) rfl (by decide +kernel) (bI_nar _) (bI_fit _) (Nat.le_of_ble_eq_true rfl) d_So_narrow_30 (fun H_6 locs_6 hP_6 hD_6 hS_6 => ?_)
    clear hS_1 hD_1 hP_1
    replace hP_6 : va_P G classes [(aSo, .inr (3, [.ref aTp, .int (iI x_1.1.at_), .int (iI x_1.1.limit), .int (bI true)])), (aTp, .inl (cB, 2000, .inl x_1.1.bytes))] H_6 := hP_6
    replace hD_6 : va_D A [(aSo, .inr (3, [.ref aTp, .int (iI x_1.1.at_), .int (iI x_1.1.limit), .int (bI true)])), (aTp, .inl (cB, 2000, .inl x_1.1.bytes))] := hD_6
    refine lv_goto (tgt := 47) hx hb d_So_narrow_33 (by decide) ?_
    exact hJK_5 (KSo.mk x_1.1.at_ x_1.1.limit true x_1.1.bytes) (KSo.Ok.mk hx_1.at_ hx_1.limit : KSo.Ok (KSo.mk x_1.1.at_ x_1.1.limit true x_1.1.bytes)) hf _ _ hP_6 hD_6 hS_6 _ (lv_sub hl [2, 1, 0] rfl)
