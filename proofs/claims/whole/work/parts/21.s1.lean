abbrev b_So_octet : ByteArray := prog_10_method_6_code
def y_So_octet : MethodName := ⟨R_So, "octet", "()I"⟩
abbrev b_So_fail : ByteArray := prog_10_method_3_code
def y_So_fail : MethodName := ⟨R_So, "fail", "()V"⟩
abbrev b_So_hasFailed : ByteArray := prog_10_method_4_code
def y_So_hasFailed : MethodName := ⟨R_So, "hasFailed", "()Z"⟩
abbrev b_So_hasMore : ByteArray := prog_10_method_5_code
def y_So_hasMore : MethodName := ⟨R_So, "hasMore", "()Z"⟩
abbrev b_So_require : ByteArray := prog_10_method_7_code
def y_So_require : MethodName := ⟨R_So, "require", "(I)V"⟩
abbrev b_So_flag : ByteArray := prog_10_method_8_code
def y_So_flag : MethodName := ⟨R_So, "flag", "()Z"⟩
abbrev b_So_valueType : ByteArray := prog_10_method_9_code
def y_So_valueType : MethodName := ⟨R_So, "valueType", "()I"⟩
abbrev b_So_left : ByteArray := prog_10_method_14_code
def y_So_left : MethodName := ⟨R_So, "left", "()I"⟩
abbrev b_So_skipRest : ByteArray := prog_10_method_15_code
def y_So_skipRest : MethodName := ⟨R_So, "skipRest", "()V"⟩
abbrev b_So_widen : ByteArray := prog_10_method_13_code
def y_So_widen : MethodName := ⟨R_So, "widen", "(I)V"⟩
theorem d_So_octet_0 : decode b_So_octet 0 = .ok (.aload_n 0, 1) := by decide +kernel
theorem d_So_octet_1 : decode b_So_octet 1 = .ok (.getfield 22, 3) := by decide +kernel
theorem d_So_octet_4 : decode b_So_octet 4 = .ok (.ifCond .ne 14, 3) := by decide +kernel
theorem d_So_octet_7 : decode b_So_octet 7 = .ok (.aload_n 0, 1) := by decide +kernel
theorem d_So_octet_8 : decode b_So_octet 8 = .ok (.getfield 15, 3) := by decide +kernel
theorem d_So_octet_11 : decode b_So_octet 11 = .ok (.aload_n 0, 1) := by decide +kernel
theorem d_So_octet_12 : decode b_So_octet 12 = .ok (.getfield 19, 3) := by decide +kernel
theorem d_So_octet_15 : decode b_So_octet 15 = .ok (.if_icmp .lt 10, 3) := by decide +kernel
theorem d_So_octet_18 : decode b_So_octet 18 = .ok (.aload_n 0, 1) := by decide +kernel
theorem d_So_octet_19 : decode b_So_octet 19 = .ok (.iconst 1, 1) := by decide +kernel
theorem d_So_octet_20 : decode b_So_octet 20 = .ok (.putfield 22, 3) := by decide +kernel
theorem d_So_octet_23 : decode b_So_octet 23 = .ok (.iconst 0, 1) := by decide +kernel
theorem d_So_octet_24 : decode b_So_octet 24 = .ok (.ireturn, 1) := by decide +kernel
theorem d_So_octet_25 : decode b_So_octet 25 = .ok (.aload_n 0, 1) := by decide +kernel
theorem d_So_octet_26 : decode b_So_octet 26 = .ok (.getfield 9, 3) := by decide +kernel
theorem d_So_octet_29 : decode b_So_octet 29 = .ok (.aload_n 0, 1) := by decide +kernel
theorem d_So_octet_30 : decode b_So_octet 30 = .ok (.getfield 15, 3) := by decide +kernel
theorem d_So_octet_33 : decode b_So_octet 33 = .ok (.baload, 1) := by decide +kernel
theorem d_So_octet_34 : decode b_So_octet 34 = .ok (.sipush 255, 3) := by decide +kernel
theorem d_So_octet_37 : decode b_So_octet 37 = .ok (.iand, 1) := by decide +kernel
theorem d_So_octet_38 : decode b_So_octet 38 = .ok (.istore_n 1, 1) := by decide +kernel
theorem d_So_octet_39 : decode b_So_octet 39 = .ok (.aload_n 0, 1) := by decide +kernel
theorem d_So_octet_40 : decode b_So_octet 40 = .ok (.dup, 1) := by decide +kernel
theorem d_So_octet_41 : decode b_So_octet 41 = .ok (.getfield 15, 3) := by decide +kernel
theorem d_So_octet_44 : decode b_So_octet 44 = .ok (.iconst 1, 1) := by decide +kernel
theorem d_So_octet_45 : decode b_So_octet 45 = .ok (.iadd, 1) := by decide +kernel
theorem d_So_octet_46 : decode b_So_octet 46 = .ok (.putfield 15, 3) := by decide +kernel
theorem d_So_octet_49 : decode b_So_octet 49 = .ok (.iload_n 1, 1) := by decide +kernel
theorem d_So_octet_50 : decode b_So_octet 50 = .ok (.ireturn, 1) := by decide +kernel
theorem d_So_fail_0 : decode b_So_fail 0 = .ok (.aload_n 0, 1) := by decide +kernel
theorem d_So_fail_1 : decode b_So_fail 1 = .ok (.iconst 1, 1) := by decide +kernel
theorem d_So_fail_2 : decode b_So_fail 2 = .ok (.putfield 22, 3) := by decide +kernel
theorem d_So_fail_5 : decode b_So_fail 5 = .ok (.return_, 1) := by decide +kernel
theorem d_So_hasFailed_0 : decode b_So_hasFailed 0 = .ok (.aload_n 0, 1) := by decide +kernel
theorem d_So_hasFailed_1 : decode b_So_hasFailed 1 = .ok (.getfield 22, 3) := by decide +kernel
theorem d_So_hasFailed_4 : decode b_So_hasFailed 4 = .ok (.ireturn, 1) := by decide +kernel
theorem d_So_hasMore_0 : decode b_So_hasMore 0 = .ok (.aload_n 0, 1) := by decide +kernel
theorem d_So_hasMore_1 : decode b_So_hasMore 1 = .ok (.getfield 22, 3) := by decide +kernel
theorem d_So_hasMore_4 : decode b_So_hasMore 4 = .ok (.ifCond .ne 18, 3) := by decide +kernel
theorem d_So_hasMore_7 : decode b_So_hasMore 7 = .ok (.aload_n 0, 1) := by decide +kernel
theorem d_So_hasMore_8 : decode b_So_hasMore 8 = .ok (.getfield 15, 3) := by decide +kernel
theorem d_So_hasMore_11 : decode b_So_hasMore 11 = .ok (.aload_n 0, 1) := by decide +kernel
theorem d_So_hasMore_12 : decode b_So_hasMore 12 = .ok (.getfield 19, 3) := by decide +kernel
theorem d_So_hasMore_15 : decode b_So_hasMore 15 = .ok (.if_icmp .ge 7, 3) := by decide +kernel
theorem d_So_hasMore_18 : decode b_So_hasMore 18 = .ok (.iconst 1, 1) := by decide +kernel
theorem d_So_hasMore_19 : decode b_So_hasMore 19 = .ok (.goto 4, 3) := by decide +kernel
theorem d_So_hasMore_22 : decode b_So_hasMore 22 = .ok (.iconst 0, 1) := by decide +kernel
theorem d_So_hasMore_23 : decode b_So_hasMore 23 = .ok (.ireturn, 1) := by decide +kernel
theorem d_So_require_0 : decode b_So_require 0 = .ok (.aload_n 0, 1) := by decide +kernel
theorem d_So_require_1 : decode b_So_require 1 = .ok (.invokevirtual 26, 3) := by decide +kernel
theorem d_So_require_4 : decode b_So_require 4 = .ok (.iload_n 1, 1) := by decide +kernel
theorem d_So_require_5 : decode b_So_require 5 = .ok (.if_icmp .eq 8, 3) := by decide +kernel
theorem d_So_require_8 : decode b_So_require 8 = .ok (.aload_n 0, 1) := by decide +kernel
theorem d_So_require_9 : decode b_So_require 9 = .ok (.iconst 1, 1) := by decide +kernel
theorem d_So_require_10 : decode b_So_require 10 = .ok (.putfield 22, 3) := by decide +kernel
theorem d_So_require_13 : decode b_So_require 13 = .ok (.return_, 1) := by decide +kernel
theorem d_So_flag_0 : decode b_So_flag 0 = .ok (.aload_n 0, 1) := by decide +kernel
theorem d_So_flag_1 : decode b_So_flag 1 = .ok (.invokevirtual 26, 3) := by decide +kernel
theorem d_So_flag_4 : decode b_So_flag 4 = .ok (.istore_n 1, 1) := by decide +kernel
theorem d_So_flag_5 : decode b_So_flag 5 = .ok (.iload_n 1, 1) := by decide +kernel
theorem d_So_flag_6 : decode b_So_flag 6 = .ok (.iconst 1, 1) := by decide +kernel
theorem d_So_flag_7 : decode b_So_flag 7 = .ok (.if_icmp .le 8, 3) := by decide +kernel
theorem d_So_flag_10 : decode b_So_flag 10 = .ok (.aload_n 0, 1) := by decide +kernel
theorem d_So_flag_11 : decode b_So_flag 11 = .ok (.iconst 1, 1) := by decide +kernel
theorem d_So_flag_12 : decode b_So_flag 12 = .ok (.putfield 22, 3) := by decide +kernel
theorem d_So_flag_15 : decode b_So_flag 15 = .ok (.iload_n 1, 1) := by decide +kernel
theorem d_So_flag_16 : decode b_So_flag 16 = .ok (.iconst 1, 1) := by decide +kernel
theorem d_So_flag_17 : decode b_So_flag 17 = .ok (.if_icmp .ne 7, 3) := by decide +kernel
theorem d_So_flag_20 : decode b_So_flag 20 = .ok (.iconst 1, 1) := by decide +kernel
theorem d_So_flag_21 : decode b_So_flag 21 = .ok (.goto 4, 3) := by decide +kernel
theorem d_So_flag_24 : decode b_So_flag 24 = .ok (.iconst 0, 1) := by decide +kernel
theorem d_So_flag_25 : decode b_So_flag 25 = .ok (.ireturn, 1) := by decide +kernel
theorem d_So_valueType_0 : decode b_So_valueType 0 = .ok (.aload_n 0, 1) := by decide +kernel
theorem d_So_valueType_1 : decode b_So_valueType 1 = .ok (.invokevirtual 26, 3) := by decide +kernel
theorem d_So_valueType_4 : decode b_So_valueType 4 = .ok (.istore_n 1, 1) := by decide +kernel
theorem d_So_valueType_5 : decode b_So_valueType 5 = .ok (.iload_n 1, 1) := by decide +kernel
theorem d_So_valueType_6 : decode b_So_valueType 6 = .ok (.bipush 127, 2) := by decide +kernel
theorem d_So_valueType_8 : decode b_So_valueType 8 = .ok (.if_icmp .eq 14, 3) := by decide +kernel
theorem d_So_valueType_11 : decode b_So_valueType 11 = .ok (.iload_n 1, 1) := by decide +kernel
theorem d_So_valueType_12 : decode b_So_valueType 12 = .ok (.bipush 126, 2) := by decide +kernel
theorem d_So_valueType_14 : decode b_So_valueType 14 = .ok (.if_icmp .eq 8, 3) := by decide +kernel
theorem d_So_valueType_17 : decode b_So_valueType 17 = .ok (.aload_n 0, 1) := by decide +kernel
theorem d_So_valueType_18 : decode b_So_valueType 18 = .ok (.iconst 1, 1) := by decide +kernel
theorem d_So_valueType_19 : decode b_So_valueType 19 = .ok (.putfield 22, 3) := by decide +kernel
theorem d_So_valueType_22 : decode b_So_valueType 22 = .ok (.iload_n 1, 1) := by decide +kernel
theorem d_So_valueType_23 : decode b_So_valueType 23 = .ok (.ireturn, 1) := by decide +kernel
theorem d_So_left_0 : decode b_So_left 0 = .ok (.aload_n 0, 1) := by decide +kernel
theorem d_So_left_1 : decode b_So_left 1 = .ok (.getfield 19, 3) := by decide +kernel
theorem d_So_left_4 : decode b_So_left 4 = .ok (.aload_n 0, 1) := by decide +kernel
theorem d_So_left_5 : decode b_So_left 5 = .ok (.getfield 15, 3) := by decide +kernel
theorem d_So_left_8 : decode b_So_left 8 = .ok (.isub, 1) := by decide +kernel
theorem d_So_left_9 : decode b_So_left 9 = .ok (.ireturn, 1) := by decide +kernel
theorem d_So_skipRest_0 : decode b_So_skipRest 0 = .ok (.aload_n 0, 1) := by decide +kernel
theorem d_So_skipRest_1 : decode b_So_skipRest 1 = .ok (.aload_n 0, 1) := by decide +kernel
theorem d_So_skipRest_2 : decode b_So_skipRest 2 = .ok (.getfield 19, 3) := by decide +kernel
theorem d_So_skipRest_5 : decode b_So_skipRest 5 = .ok (.putfield 15, 3) := by decide +kernel
theorem d_So_skipRest_8 : decode b_So_skipRest 8 = .ok (.return_, 1) := by decide +kernel
theorem d_So_widen_0 : decode b_So_widen 0 = .ok (.aload_n 0, 1) := by decide +kernel
theorem d_So_widen_1 : decode b_So_widen 1 = .ok (.getfield 15, 3) := by decide +kernel
theorem d_So_widen_4 : decode b_So_widen 4 = .ok (.aload_n 0, 1) := by decide +kernel
theorem d_So_widen_5 : decode b_So_widen 5 = .ok (.getfield 19, 3) := by decide +kernel
theorem d_So_widen_8 : decode b_So_widen 8 = .ok (.if_icmp .eq 8, 3) := by decide +kernel
theorem d_So_widen_11 : decode b_So_widen 11 = .ok (.aload_n 0, 1) := by decide +kernel
theorem d_So_widen_12 : decode b_So_widen 12 = .ok (.iconst 1, 1) := by decide +kernel
theorem d_So_widen_13 : decode b_So_widen 13 = .ok (.putfield 22, 3) := by decide +kernel
theorem d_So_widen_16 : decode b_So_widen 16 = .ok (.aload_n 0, 1) := by decide +kernel
theorem d_So_widen_17 : decode b_So_widen 17 = .ok (.iload_n 1, 1) := by decide +kernel
theorem d_So_widen_18 : decode b_So_widen 18 = .ok (.putfield 19, 3) := by decide +kernel
theorem d_So_widen_21 : decode b_So_widen 21 = .ok (.return_, 1) := by decide +kernel
theorem m_51 : Cond.fieldLink R_So 22 "WaferRunner$Source" "failed" "Z" ∈ lw_good := lw_in (List.mem_append_right _ (List.mem_of_getElem? (i := 51) (by decide +kernel))) (by decide +kernel)
theorem m_49 : Cond.fieldLink R_So 15 "WaferRunner$Source" "at" "I" ∈ lw_good := lw_in (List.mem_append_right _ (List.mem_of_getElem? (i := 49) (by decide +kernel))) (by decide +kernel)
theorem m_50 : Cond.fieldLink R_So 19 "WaferRunner$Source" "limit" "I" ∈ lw_good := lw_in (List.mem_append_right _ (List.mem_of_getElem? (i := 50) (by decide +kernel))) (by decide +kernel)
theorem m_48 : Cond.fieldLink R_So 9 "WaferRunner$Source" "bytes" "[B" ∈ lw_good := lw_in (List.mem_append_right _ (List.mem_of_getElem? (i := 48) (by decide +kernel))) (by decide +kernel)
theorem m_600 : Cond.methodLink R_So 26 y_So_octet ∈ lw_good := lw_in (List.mem_append_right _ (List.mem_of_getElem? (i := 600) (by decide +kernel))) (by decide +kernel)
theorem m_601 : Cond.instanceMethod y_So_octet ∈ lw_good := lw_in (List.mem_append_right _ (List.mem_of_getElem? (i := 601) (by decide +kernel))) (by decide +kernel)
theorem m_602 : Cond.selects R_So y_So_octet y_So_octet ∈ lw_good := lw_in (List.mem_append_right _ (List.mem_of_getElem? (i := 602) (by decide +kernel))) (by decide +kernel)
theorem m_603 : Cond.code y_So_octet b_So_octet 2 (some .int) ∈ lw_good := lw_in (List.mem_append_right _ (List.mem_of_getElem? (i := 603) (by decide +kernel))) (by decide +kernel)
set_option maxHeartbeats 8000000 in
set_option maxRecDepth 100000 in
theorem k_So_octet (l : Launch) (htr : l.stackTraces = false) (G : va_G) (cB cI cJ cZ cG : ClassId) (aSo : Nat) (aTp : Nat) (zSo : KSo) (hzSo : KSo.Ok zSo) (R9 : Out Empty (KSo × Int)) (hf : f_So_octet zSo = R9) (hnb : R9 ≠ .bad) (sz : Nat) : MetX l y_So_octet (wx y_So_octet b_So_octet 2 (some .int)) { frames := 0, cells := 0, slots := 0, locals := 0 } (XP G classes (xtys cB cI cJ cZ cG) xE [.ref aSo] [(aSo, .inr (3, [.ref aTp, .int (iI zSo.at_), .int (iI zSo.limit), .int (bI zSo.failed)])), (aTp, .inl (cB, 2000, .inl zSo.bytes))] sz) (XQ G classes (va_A [(aSo, .inr (3, [.ref aTp, .int (iI zSo.at_), .int (iI zSo.limit), .int (bI zSo.failed)])), (aTp, .inl (cB, 2000, .inl zSo.bytes))] sz) (fun o w1 => ozp R9 (fun x9 => (KSo.Ok x9.1 ∧ R32 x9.2) ∧ o = .returned (some (.int (iI x9.2))) ∧ w1 = [(aSo, .inr (3, [.ref aTp, .int (iI x9.1.at_), .int (iI x9.1.limit), .int (bI x9.1.failed)])), (aTp, .inl (cB, 2000, .inl x9.1.bytes))]) (fun _ => False))) 0 0 (va_A [(aSo, .inr (3, [.ref aTp, .int (iI zSo.at_), .int (iI zSo.limit), .int (bI zSo.failed)])), (aTp, .inl (cB, 2000, .inl zSo.bytes))] sz) := by
  refine ex_ofW (cc := b_So_octet) (maxL := 2) (ret := (some .int)) (by decide) rfl ?_
  intro p e s m args below meth c s₁ B hml hno hv
  obtain ⟨rfl, hsz, hP, hK, hD0, hE⟩ := hv
  have hx := B.exec
  have hb := B.bytes
  have hr := B.returns
  have hts : ∀ w ∈ lw_good, w.before _ s = true := fun w h => atoms_spec (ws := wx y_So_octet b_So_octet 2 (some .int)) B.pre w (List.mem_cons_of_mem _ h)
  have hown : s.vm.findClass R_So = some m.cls := findClass_of_methodNamed B.named
  have hlocks := B.notSynchronized
  subst hsz
  have hNS := xx_nostat hP
  have hD := hD0.self (sz := s.heap.size)
  generalize hAe : va_A [(aSo, .inr (3, [.ref aTp, .int (iI zSo.at_), .int (iI zSo.limit), .int (bI zSo.failed)])), (aTp, .inl (cB, 2000, .inl zSo.bytes))] s.heap.size = A at hD hE hNS ⊢
  have hA : ∀ q : Nat, s.heap.size ≤ q → A q := fun q h => by rw [← hAe]; exact Or.inr h
  have hS : va_S A s.heap s.heap [] := va_S.rf
  have hl := lv_entry ([.ref aSo]) (n := 2) (Nat.le_of_ble_eq_true rfl)
  rw [lg_entry_eq]
  generalize (lg_sl ([.ref aSo]) ++ List.replicate (2 - (lg_sl ([.ref aSo])).length) Slot.unset).toArray = ls at hl ⊢
  have hl : lv_has ls 2 [(0, .ref aSo)] := hl
  unfold f_So_octet at hf
  refine lv_aload_n hx hb d_So_octet_0 rfl (lv_at hl 0 rfl) ?_
  refine va_get (D := G) (ci := 3) (v := .int (bI zSo.failed)) (C := R_So) (T := F_So) (N := 4) hx hb hts i_So hown hK hP 0 rfl rfl 3 (by decide) (hts _ m_51) (fun _ h9 => h9) rfl d_So_octet_1 ?_
  refine jpE hf (fun K_2 hK_2 hf9 => ?_)
  replace hf := hf9
  clear hf9
  have hJK_2 : ∀ (y_1 : Unit), True → K_2 y_1 = R9 → ∀ (H : Heap) (locs : List Loc), va_P G classes [(aSo, .inr (3, [.ref aTp, .int (iI zSo.at_), .int (iI zSo.limit), .int (bI zSo.failed)])), (aTp, .inl (cB, 2000, .inl zSo.bytes))] H → va_D A [(aSo, .inr (3, [.ref aTp, .int (iI zSo.at_), .int (iI zSo.limit), .int (bI zSo.failed)])), (aTp, .inl (cB, 2000, .inl zSo.bytes))] → va_S A s.heap H locs → ∀ (ls : Array Slot), lv_has ls 2 [(0, .ref aSo)] → W p l e (headSpec (wx y_So_octet b_So_octet 2 (some .int)) { frames := 0, cells := 0, slots := 0, locals := 0 }).room s m ([.ref aSo] : List Value).toArray below meth c H locs 0 0 (MX below (XQ G classes A (fun o w1 => ozp R9 (fun x9 => (KSo.Ok x9.1 ∧ R32 x9.2) ∧ o = .returned (some (.int (iI x9.2))) ∧ w1 = [(aSo, .inr (3, [.ref aTp, .int (iI x9.1.at_), .int (iI x9.1.limit), .int (bI x9.1.failed)])), (aTp, .inl (cB, 2000, .inl x9.1.bytes))]) (fun _ => False))) ([.ref aSo] : List Value).toArray s 0 0 A) (F0 m 18 ls []) := by
    intro y_1 hy_1 hf H_3 locs_3 hP_3 hD_3 hS_3 ls hl
    clear hS hD hP
    replace hf := (congrFun hK_2 y_1).symm.trans hf
    clear hK_2
    refine lv_aload_n hx hb d_So_octet_18 rfl (lv_at hl 0 rfl) ?_
    refine lv_iconst (v := iI 1) hx hb d_So_octet_19 (by decide) ?_
    refine W.eq (g2 := F0 m 20 ls [.int (bI true), .ref aSo]) (by rfl) ?_
    refine va_put (D := G) (ci := 3) (v := .int (bI true)) (ty := .boolean) (C := R_So) (T := F_So) (N := 4) hx hb hts i_So t_So t_So_ok n_So hown hK hP_3 hD_3 hS_3 0 rfl rfl 3 (by decide) (hts _ m_51) (fun _ h9 => h9) rfl (by decide +kernel) (bI_nar _) (bI_fit _) (Nat.le_of_ble_eq_true rfl) d_So_octet_20 (fun H_4 locs_4 hP_4 hD_4 hS_4 => ?_)
    clear hS_3 hD_3 hP_3
    replace hP_4 : va_P G classes [(aSo, .inr (3, [.ref aTp, .int (iI zSo.at_), .int (iI zSo.limit), .int (bI true)])), (aTp, .inl (cB, 2000, .inl zSo.bytes))] H_4 := hP_4
    replace hD_4 : va_D A [(aSo, .inr (3, [.ref aTp, .int (iI zSo.at_), .int (iI zSo.limit), .int (bI true)])), (aTp, .inl (cB, 2000, .inl zSo.bytes))] := hD_4
    refine lv_iconst (v := iI 0) hx hb d_So_octet_23 (by decide) ?_
    exact ex_W (fun _ h => ex_mq h) (W.iret (v := iI 0) hx hb hr (fun t ht hW => ⟨⟨_, ozr hf ⟨⟨(KSo.Ok.mk hzSo.at_ hzSo.limit : KSo.Ok (KSo.mk zSo.at_ zSo.limit true zSo.bytes)), (show R32 (0) by decide)⟩, rfl, rfl⟩, by rw [ht]; exact hP_4, hD_4⟩, hS_4.F ht⟩) hS_4.2.2 d_So_octet_24)
  clear hK_2
  refine lv_if_ne (tgt := 18) hx hb d_So_octet_4 (by decide) (fun c_3 => ?_) (fun c_3 => ?_)
  · have c_3 := (zb_t c_3)
    replace hf := ifp c_3 hf
    exact hJK_2 () trivial hf _ _ hP hD hS _ (lv_sub hl [0] rfl)
  · have c_3 := (zb_f c_3)
    replace hf := ifn c_3 hf
    refine lv_aload_n hx hb d_So_octet_7 rfl (lv_at hl 0 rfl) ?_
    refine va_get (D := G) (ci := 3) (v := .int (iI zSo.at_)) (C := R_So) (T := F_So) (N := 4) hx hb hts i_So hown hK hP 0 rfl rfl 1 (by decide) (hts _ m_49) (fun _ h9 => h9) rfl d_So_octet_8 ?_
    refine lv_aload_n hx hb d_So_octet_11 rfl (lv_at hl 0 rfl) ?_
    refine va_get (D := G) (ci := 3) (v := .int (iI zSo.limit)) (C := R_So) (T := F_So) (N := 4) hx hb hts i_So hown hK hP 0 rfl rfl 2 (by decide) (hts _ m_50) (fun _ h9 => h9) rfl d_So_octet_12 ?_
    refine lv_icmp_lt (tgt := 25) hx hb d_So_octet_15 (by decide) (fun c_4 => ?_) (fun c_4 => ?_)
    · have c_4 := ((zv_lt (iI_t hzSo.at_) (iI_t hzSo.limit))).mp c_4
      replace hf := ifp c_4 hf
      refine lv_aload_n hx hb d_So_octet_25 rfl (lv_at hl 0 rfl) ?_
      refine va_get (D := G) (ci := 3) (v := .ref aTp) (C := R_So) (T := F_So) (N := 4) hx hb hts i_So hown hK hP 0 rfl rfl 0 (by decide) (hts _ m_48) (fun _ h9 => h9) rfl d_So_octet_26 ?_
      refine lv_aload_n hx hb d_So_octet_29 rfl (lv_at hl 0 rfl) ?_
      refine va_get (D := G) (ci := 3) (v := .int (iI zSo.at_)) (C := R_So) (T := F_So) (N := 4) hx hb hts i_So hown hK hP 0 rfl rfl 1 (by decide) (hts _ m_49) (fun _ h9 => h9) rfl d_So_octet_30 ?_
      replace hf := grd hnb hf
      obtain ⟨g_5, hf⟩ := hf
      refine va_bald hx hb hK hP 1 0 rfl rfl (vp_in_iI hzSo.at_ g_5) d_So_octet_33 ?_
      refine W.eq (g2 := F0 m 34 ls [.int (zSo.bytes zSo.at_.toNat)]) (by rw [iI_clamp hzSo.at_] <;> rfl) ?_
      refine lv_sipush (v := iI 255) hx hb d_So_octet_34 (by decide) ?_
      refine lv_iand hx hb d_So_octet_37 ?_
      refine lv_topi (fun x9 e9 => ?_)
      obtain rfl : x9 = iI (by8 (zSo.bytes zSo.at_.toNat)) := e9.trans (by8_i _)
      refine lv_istore_n (lv' := [(1, .int (iI (by8 (zSo.bytes zSo.at_.toNat)))), (0, .ref aSo)]) hx hb d_So_octet_38 rfl hl (by decide) rfl (fun ls hl => ?_)
      refine lv_aload_n hx hb d_So_octet_39 rfl (lv_at hl 1 rfl) ?_
      refine lv_dup hx hb d_So_octet_40 rfl ?_
      refine va_get (D := G) (ci := 3) (v := .int (iI zSo.at_)) (C := R_So) (T := F_So) (N := 4) hx hb hts i_So hown hK hP 0 rfl rfl 1 (by decide) (hts _ m_49) (fun _ h9 => h9) rfl d_So_octet_41 ?_
      refine lv_iconst (v := iI 1) hx hb d_So_octet_44 (by decide) ?_
      refine lv_iadd hx hb d_So_octet_45 ?_
      refine lv_topi (fun x9 e9 => ?_)
      obtain rfl : x9 = iI (zSo.at_ + 1) := e9.trans (iI_add _ _)
      replace hf := grd hnb hf
      obtain ⟨g_6, hf⟩ := hf
      refine va_put (D := G) (ci := 3) (v := .int (iI (zSo.at_ + 1))) (ty := .int) (C := R_So) (T := F_So) (N := 4) hx hb hts i_So t_So t_So_ok n_So hown hK hP hD hS 0 rfl rfl 1 (by decide) (hts _ m_49) (fun _ h9 => h9) rfl (by decide +kernel) rfl rfl (Nat.le_of_ble_eq_true rfl) d_So_octet_46 (fun H_5 locs_5 hP_5 hD_5 hS_5 => ?_)
      clear hS hD hP
      replace hP_5 : va_P G classes [(aSo, .inr (3, [.ref aTp, .int (iI (zSo.at_ + 1)), .int (iI zSo.limit), .int (bI zSo.failed)])), (aTp, .inl (cB, 2000, .inl zSo.bytes))] H_5 := hP_5
      replace hD_5 : va_D A [(aSo, .inr (3, [.ref aTp, .int (iI (zSo.at_ + 1)), .int (iI zSo.limit), .int (bI zSo.failed)])), (aTp, .inl (cB, 2000, .inl zSo.bytes))] := hD_5
      refine lv_iload_n hx hb d_So_octet_49 rfl (lv_at hl 0 rfl) ?_
      exact ex_W (fun _ h => ex_mq h) (W.iret (v := iI (by8 (zSo.bytes zSo.at_.toNat))) hx hb hr (fun t ht hW => ⟨⟨_, ozr hf ⟨⟨(KSo.Ok.mk g_6 hzSo.limit : KSo.Ok (KSo.mk (zSo.at_ + 1) zSo.limit zSo.failed zSo.bytes)), (by8_R _)⟩, rfl, rfl⟩, by rw [ht]; exact hP_5, hD_5⟩, hS_5.F ht⟩) hS_5.2.2 d_So_octet_50)
    · have c_4 := (fun q9 => c_4 (((zv_lt (iI_t hzSo.at_) (iI_t hzSo.limit))).mpr q9))
      replace hf := ifn c_4 hf
      exact hJK_2 () trivial hf _ _ hP hD hS _ (lv_sub hl [0] rfl)
set_option maxHeartbeats 8000000 in
set_option maxRecDepth 100000 in
theorem k_So_fail (l : Launch) (htr : l.stackTraces = false) (G : va_G) (cB cI cJ cZ cG : ClassId) (aSo : Nat) (aTp : Nat) (zSo : KSo) (hzSo : KSo.Ok zSo) (R9 : Out Empty (KSo)) (hf : f_So_fail zSo = R9) (hnb : R9 ≠ .bad) (sz : Nat) : MetX l y_So_fail (wx y_So_fail b_So_fail 1 none) { frames := 0, cells := 0, slots := 0, locals := 0 } (XP G classes (xtys cB cI cJ cZ cG) xE [.ref aSo] [(aSo, .inr (3, [.ref aTp, .int (iI zSo.at_), .int (iI zSo.limit), .int (bI zSo.failed)])), (aTp, .inl (cB, 2000, .inl zSo.bytes))] sz) (XQ G classes (va_A [(aSo, .inr (3, [.ref aTp, .int (iI zSo.at_), .int (iI zSo.limit), .int (bI zSo.failed)])), (aTp, .inl (cB, 2000, .inl zSo.bytes))] sz) (fun o w1 => ozp R9 (fun x9 => (KSo.Ok x9) ∧ o = .returned none ∧ w1 = [(aSo, .inr (3, [.ref aTp, .int (iI x9.at_), .int (iI x9.limit), .int (bI x9.failed)])), (aTp, .inl (cB, 2000, .inl x9.bytes))]) (fun _ => False))) 0 0 (va_A [(aSo, .inr (3, [.ref aTp, .int (iI zSo.at_), .int (iI zSo.limit), .int (bI zSo.failed)])), (aTp, .inl (cB, 2000, .inl zSo.bytes))] sz) := by
  refine ex_ofW (cc := b_So_fail) (maxL := 1) (ret := none) (by decide) rfl ?_
  intro p e s m args below meth c s₁ B hml hno hv
  obtain ⟨rfl, hsz, hP, hK, hD0, hE⟩ := hv
  have hx := B.exec
  have hb := B.bytes
  have hr := B.returns
  have hts : ∀ w ∈ lw_good, w.before _ s = true := fun w h => atoms_spec (ws := wx y_So_fail b_So_fail 1 none) B.pre w (List.mem_cons_of_mem _ h)
  have hown : s.vm.findClass R_So = some m.cls := findClass_of_methodNamed B.named
  have hlocks := B.notSynchronized
  subst hsz
  have hNS := xx_nostat hP
  have hD := hD0.self (sz := s.heap.size)
  generalize hAe : va_A [(aSo, .inr (3, [.ref aTp, .int (iI zSo.at_), .int (iI zSo.limit), .int (bI zSo.failed)])), (aTp, .inl (cB, 2000, .inl zSo.bytes))] s.heap.size = A at hD hE hNS ⊢
  have hA : ∀ q : Nat, s.heap.size ≤ q → A q := fun q h => by rw [← hAe]; exact Or.inr h
  have hS : va_S A s.heap s.heap [] := va_S.rf
  have hl := lv_entry ([.ref aSo]) (n := 1) (Nat.le_of_ble_eq_true rfl)
  rw [lg_entry_eq]
  generalize (lg_sl ([.ref aSo]) ++ List.replicate (1 - (lg_sl ([.ref aSo])).length) Slot.unset).toArray = ls at hl ⊢
  have hl : lv_has ls 1 [(0, .ref aSo)] := hl
  unfold f_So_fail at hf
  refine lv_aload_n hx hb d_So_fail_0 rfl (lv_at hl 0 rfl) ?_
  refine lv_iconst (v := iI 1) hx hb d_So_fail_1 (by decide) ?_
  refine W.eq (g2 := F0 m 2 ls [.int (bI true), .ref aSo]) (by rfl) ?_
  refine va_put (D := G) (ci := 3) (v := .int (bI true)) (ty := .boolean) (C := R_So) (T := F_So) (N := 4) hx hb hts i_So t_So t_So_ok n_So hown hK hP hD hS 0 rfl rfl 3 (by decide) (hts _ m_51) (fun _ h9 => h9) rfl (by decide +kernel) (bI_nar _) (bI_fit _) (Nat.le_of_ble_eq_true rfl) d_So_fail_2 (fun H_1 locs_1 hP_1 hD_1 hS_1 => ?_)
  clear hS hD hP
  replace hP_1 : va_P G classes [(aSo, .inr (3, [.ref aTp, .int (iI zSo.at_), .int (iI zSo.limit), .int (bI true)])), (aTp, .inl (cB, 2000, .inl zSo.bytes))] H_1 := hP_1
  replace hD_1 : va_D A [(aSo, .inr (3, [.ref aTp, .int (iI zSo.at_), .int (iI zSo.limit), .int (bI true)])), (aTp, .inl (cB, 2000, .inl zSo.bytes))] := hD_1
  exact ex_W (fun _ h => ex_mq h) (W.vret hx hb hr (fun t ht hW => ⟨⟨_, ozr hf ⟨(KSo.Ok.mk hzSo.at_ hzSo.limit : KSo.Ok (KSo.mk zSo.at_ zSo.limit true zSo.bytes)), rfl, rfl⟩, by rw [ht]; exact hP_1, hD_1⟩, hS_1.F ht⟩) hS_1.2.2 d_So_fail_5)
set_option maxHeartbeats 8000000 in
set_option maxRecDepth 100000 in
theorem k_So_hasFailed (l : Launch) (htr : l.stackTraces = false) (G : va_G) (cB cI cJ cZ cG : ClassId) (aSo : Nat) (aTp : Nat) (zSo : KSo) (hzSo : KSo.Ok zSo) (R9 : Out Empty (Bool)) (hf : f_So_hasFailed zSo = R9) (hnb : R9 ≠ .bad) (sz : Nat) : MetX l y_So_hasFailed (wx y_So_hasFailed b_So_hasFailed 1 (some .boolean)) { frames := 0, cells := 0, slots := 0, locals := 0 } (XP G classes (xtys cB cI cJ cZ cG) xE [.ref aSo] [(aSo, .inr (3, [.ref aTp, .int (iI zSo.at_), .int (iI zSo.limit), .int (bI zSo.failed)]))] sz) (XQ G classes (va_A [(aSo, .inr (3, [.ref aTp, .int (iI zSo.at_), .int (iI zSo.limit), .int (bI zSo.failed)]))] sz) (fun o w1 => ozp R9 (fun x9 => (True) ∧ o = .returned (some (.int (bI x9))) ∧ w1 = [(aSo, .inr (3, [.ref aTp, .int (iI zSo.at_), .int (iI zSo.limit), .int (bI zSo.failed)]))]) (fun _ => False))) 0 0 (va_A [(aSo, .inr (3, [.ref aTp, .int (iI zSo.at_), .int (iI zSo.limit), .int (bI zSo.failed)]))] sz) := by
  refine ex_ofW (cc := b_So_hasFailed) (maxL := 1) (ret := (some .boolean)) (by decide) rfl ?_
  intro p e s m args below meth c s₁ B hml hno hv
  obtain ⟨rfl, hsz, hP, hK, hD0, hE⟩ := hv
  have hx := B.exec
  have hb := B.bytes
  have hr := B.returns
  have hts : ∀ w ∈ lw_good, w.before _ s = true := fun w h => atoms_spec (ws := wx y_So_hasFailed b_So_hasFailed 1 (some .boolean)) B.pre w (List.mem_cons_of_mem _ h)
  have hown : s.vm.findClass R_So = some m.cls := findClass_of_methodNamed B.named
  have hlocks := B.notSynchronized
  subst hsz
  have hNS := xx_nostat hP
  have hD := hD0.self (sz := s.heap.size)
  generalize hAe : va_A [(aSo, .inr (3, [.ref aTp, .int (iI zSo.at_), .int (iI zSo.limit), .int (bI zSo.failed)]))] s.heap.size = A at hD hE hNS ⊢
  have hA : ∀ q : Nat, s.heap.size ≤ q → A q := fun q h => by rw [← hAe]; exact Or.inr h
  have hS : va_S A s.heap s.heap [] := va_S.rf
  have hl := lv_entry ([.ref aSo]) (n := 1) (Nat.le_of_ble_eq_true rfl)
  rw [lg_entry_eq]
  generalize (lg_sl ([.ref aSo]) ++ List.replicate (1 - (lg_sl ([.ref aSo])).length) Slot.unset).toArray = ls at hl ⊢
  have hl : lv_has ls 1 [(0, .ref aSo)] := hl
  unfold f_So_hasFailed at hf
  refine lv_aload_n hx hb d_So_hasFailed_0 rfl (lv_at hl 0 rfl) ?_
  refine va_get (D := G) (ci := 3) (v := .int (bI zSo.failed)) (C := R_So) (T := F_So) (N := 4) hx hb hts i_So hown hK hP 0 rfl rfl 3 (by decide) (hts _ m_51) (fun _ h9 => h9) rfl d_So_hasFailed_1 ?_
  exact ex_W (fun _ h => ex_mq h) (W.zret (v := bI zSo.failed) hx hb hr (bI_nar _) (fun t ht hW => ⟨⟨_, ozr hf ⟨trivial, rfl, rfl⟩, by rw [ht]; exact hP, hD⟩, hS.F ht⟩) hS.2.2 d_So_hasFailed_4)
set_option maxHeartbeats 8000000 in
set_option maxRecDepth 100000 in
theorem k_So_hasMore (l : Launch) (htr : l.stackTraces = false) (G : va_G) (cB cI cJ cZ cG : ClassId) (aSo : Nat) (aTp : Nat) (zSo : KSo) (hzSo : KSo.Ok zSo) (R9 : Out Empty (Bool)) (hf : f_So_hasMore zSo = R9) (hnb : R9 ≠ .bad) (sz : Nat) : MetX l y_So_hasMore (wx y_So_hasMore b_So_hasMore 1 (some .boolean)) { frames := 0, cells := 0, slots := 0, locals := 0 } (XP G classes (xtys cB cI cJ cZ cG) xE [.ref aSo] [(aSo, .inr (3, [.ref aTp, .int (iI zSo.at_), .int (iI zSo.limit), .int (bI zSo.failed)]))] sz) (XQ G classes (va_A [(aSo, .inr (3, [.ref aTp, .int (iI zSo.at_), .int (iI zSo.limit), .int (bI zSo.failed)]))] sz) (fun o w1 => ozp R9 (fun x9 => (True) ∧ o = .returned (some (.int (bI x9))) ∧ w1 = [(aSo, .inr (3, [.ref aTp, .int (iI zSo.at_), .int (iI zSo.limit), .int (bI zSo.failed)]))]) (fun _ => False))) 0 0 (va_A [(aSo, .inr (3, [.ref aTp, .int (iI zSo.at_), .int (iI zSo.limit), .int (bI zSo.failed)]))] sz) := by
  refine ex_ofW (cc := b_So_hasMore) (maxL := 1) (ret := (some .boolean)) (by decide) rfl ?_
  intro p e s m args below meth c s₁ B hml hno hv
  obtain ⟨rfl, hsz, hP, hK, hD0, hE⟩ := hv
  have hx := B.exec
  have hb := B.bytes
  have hr := B.returns
  have hts : ∀ w ∈ lw_good, w.before _ s = true := fun w h => atoms_spec (ws := wx y_So_hasMore b_So_hasMore 1 (some .boolean)) B.pre w (List.mem_cons_of_mem _ h)
  have hown : s.vm.findClass R_So = some m.cls := findClass_of_methodNamed B.named
  have hlocks := B.notSynchronized
  subst hsz
  have hNS := xx_nostat hP
  have hD := hD0.self (sz := s.heap.size)
  generalize hAe : va_A [(aSo, .inr (3, [.ref aTp, .int (iI zSo.at_), .int (iI zSo.limit), .int (bI zSo.failed)]))] s.heap.size = A at hD hE hNS ⊢
  have hA : ∀ q : Nat, s.heap.size ≤ q → A q := fun q h => by rw [← hAe]; exact Or.inr h
  have hS : va_S A s.heap s.heap [] := va_S.rf
  have hl := lv_entry ([.ref aSo]) (n := 1) (Nat.le_of_ble_eq_true rfl)
  rw [lg_entry_eq]
  generalize (lg_sl ([.ref aSo]) ++ List.replicate (1 - (lg_sl ([.ref aSo])).length) Slot.unset).toArray = ls at hl ⊢
  have hl : lv_has ls 1 [(0, .ref aSo)] := hl
  unfold f_So_hasMore at hf
  refine lv_aload_n hx hb d_So_hasMore_0 rfl (lv_at hl 0 rfl) ?_
  refine va_get (D := G) (ci := 3) (v := .int (bI zSo.failed)) (C := R_So) (T := F_So) (N := 4) hx hb hts i_So hown hK hP 0 rfl rfl 3 (by decide) (hts _ m_51) (fun _ h9 => h9) rfl d_So_hasMore_1 ?_
  refine jpE hf (fun K_2 hK_2 hf9 => ?_)
  replace hf := hf9
  clear hf9
  have hJK_2 : ∀ (y_1 : Bool), True → K_2 y_1 = R9 → ∀ (H : Heap) (locs : List Loc), va_P G classes [(aSo, .inr (3, [.ref aTp, .int (iI zSo.at_), .int (iI zSo.limit), .int (bI zSo.failed)]))] H → va_D A [(aSo, .inr (3, [.ref aTp, .int (iI zSo.at_), .int (iI zSo.limit), .int (bI zSo.failed)]))] → va_S A s.heap H locs → ∀ (ls : Array Slot), lv_has ls 1 [(0, .ref aSo)] → W p l e (headSpec (wx y_So_hasMore b_So_hasMore 1 (some .boolean)) { frames := 0, cells := 0, slots := 0, locals := 0 }).room s m ([.ref aSo] : List Value).toArray below meth c H locs 0 0 (MX below (XQ G classes A (fun o w1 => ozp R9 (fun x9 => (True) ∧ o = .returned (some (.int (bI x9))) ∧ w1 = [(aSo, .inr (3, [.ref aTp, .int (iI zSo.at_), .int (iI zSo.limit), .int (bI zSo.failed)]))]) (fun _ => False))) ([.ref aSo] : List Value).toArray s 0 0 A) (F0 m 23 ls [.int (bI y_1)]) := by
    intro y_1 hy_1 hf H_1 locs_1 hP_1 hD_1 hS_1 ls hl
    clear hS hD hP
    replace hf := (congrFun hK_2 y_1).symm.trans hf
    clear hK_2
    exact ex_W (fun _ h => ex_mq h) (W.zret (v := bI y_1) hx hb hr (bI_nar _) (fun t ht hW => ⟨⟨_, ozr hf ⟨trivial, rfl, rfl⟩, by rw [ht]; exact hP_1, hD_1⟩, hS_1.F ht⟩) hS_1.2.2 d_So_hasMore_23)
  clear hK_2
  refine jpE hf (fun K_4 hK_4 hf9 => ?_)
  replace hf := hf9
  clear hf9
  have hJK_4 : ∀ (y_3 : Unit), True → K_4 y_3 = R9 → ∀ (H : Heap) (locs : List Loc), va_P G classes [(aSo, .inr (3, [.ref aTp, .int (iI zSo.at_), .int (iI zSo.limit), .int (bI zSo.failed)]))] H → va_D A [(aSo, .inr (3, [.ref aTp, .int (iI zSo.at_), .int (iI zSo.limit), .int (bI zSo.failed)]))] → va_S A s.heap H locs → ∀ (ls : Array Slot), lv_has ls 1 [(0, .ref aSo)] → W p l e (headSpec (wx y_So_hasMore b_So_hasMore 1 (some .boolean)) { frames := 0, cells := 0, slots := 0, locals := 0 }).room s m ([.ref aSo] : List Value).toArray below meth c H locs 0 0 (MX below (XQ G classes A (fun o w1 => ozp R9 (fun x9 => (True) ∧ o = .returned (some (.int (bI x9))) ∧ w1 = [(aSo, .inr (3, [.ref aTp, .int (iI zSo.at_), .int (iI zSo.limit), .int (bI zSo.failed)]))]) (fun _ => False))) ([.ref aSo] : List Value).toArray s 0 0 A) (F0 m 22 ls []) := by
    intro y_3 hy_3 hf H_2 locs_2 hP_2 hD_2 hS_2 ls hl
    clear hS hD hP
    replace hf := (congrFun hK_4 y_3).symm.trans hf
    clear hK_4
    refine lv_iconst (v := iI 0) hx hb d_So_hasMore_22 (by decide) ?_
    refine W.eq (g2 := F0 m 23 ls [.int (bI false)]) (by rfl) ?_
    exact hJK_2 false trivial hf _ _ hP_2 hD_2 hS_2 _ (lv_sub hl [0] rfl)
  clear hK_4
  refine lv_if_ne (tgt := 22) hx hb d_So_hasMore_4 (by decide) (fun c_5 => ?_) (fun c_5 => ?_)
  · have c_5 := (zb_t c_5)
    replace hf := ifp c_5 hf
    exact hJK_4 () trivial hf _ _ hP hD hS _ (lv_sub hl [0] rfl)
  · have c_5 := (zb_f c_5)
    replace hf := ifn c_5 hf
    refine lv_aload_n hx hb d_So_hasMore_7 rfl (lv_at hl 0 rfl) ?_
    refine va_get (D := G) (ci := 3) (v := .int (iI zSo.at_)) (C := R_So) (T := F_So) (N := 4) hx hb hts i_So hown hK hP 0 rfl rfl 1 (by decide) (hts _ m_49) (fun _ h9 => h9) rfl d_So_hasMore_8 ?_
    refine lv_aload_n hx hb d_So_hasMore_11 rfl (lv_at hl 0 rfl) ?_
    refine va_get (D := G) (ci := 3) (v := .int (iI zSo.limit)) (C := R_So) (T := F_So) (N := 4) hx hb hts i_So hown hK hP 0 rfl rfl 2 (by decide) (hts _ m_50) (fun _ h9 => h9) rfl d_So_hasMore_12 ?_
    refine lv_icmp_ge (tgt := 22) hx hb d_So_hasMore_15 (by decide) (fun c_6 => ?_) (fun c_6 => ?_)
    · have c_6 := ((zv_le (iI_t hzSo.limit) (iI_t hzSo.at_))).mp c_6
      replace hf := ifp c_6 hf
      exact hJK_4 () trivial hf _ _ hP hD hS _ (lv_sub hl [0] rfl)
    · have c_6 := (fun q9 => c_6 (((zv_le (iI_t hzSo.limit) (iI_t hzSo.at_))).mpr q9))
      replace hf := ifn c_6 hf
      refine lv_iconst (v := iI 1) hx hb d_So_hasMore_18 (by decide) ?_
      refine lv_goto (tgt := 23) hx hb d_So_hasMore_19 (by decide) ?_
      refine W.eq (g2 := F0 m 23 ls [.int (bI true)]) (by rfl) ?_
      exact hJK_2 true trivial hf _ _ hP hD hS _ (lv_sub hl [0] rfl)
set_option maxHeartbeats 8000000 in
set_option maxRecDepth 100000 in
theorem k_So_require (l : Launch) (htr : l.stackTraces = false) (G : va_G) (cB cI cJ cZ cG : ClassId) (aSo : Nat) (aTp : Nat) (zSo : KSo) (hzSo : KSo.Ok zSo) (v_wanted : Int) (hv_wanted : R32 v_wanted) (R9 : Out Empty (KSo)) (hf : f_So_require zSo v_wanted = R9) (hnb : R9 ≠ .bad) (sz : Nat) : MetX l y_So_require (wx y_So_require b_So_require 2 none) { frames := 1, cells := 0, slots := 0, locals := 21 } (XP G classes (xtys cB cI cJ cZ cG) xE [.ref aSo, .int (iI v_wanted)] [(aSo, .inr (3, [.ref aTp, .int (iI zSo.at_), .int (iI zSo.limit), .int (bI zSo.failed)])), (aTp, .inl (cB, 2000, .inl zSo.bytes))] sz) (XQ G classes (va_A [(aSo, .inr (3, [.ref aTp, .int (iI zSo.at_), .int (iI zSo.limit), .int (bI zSo.failed)])), (aTp, .inl (cB, 2000, .inl zSo.bytes))] sz) (fun o w1 => ozp R9 (fun x9 => (KSo.Ok x9) ∧ o = .returned none ∧ w1 = [(aSo, .inr (3, [.ref aTp, .int (iI x9.at_), .int (iI x9.limit), .int (bI x9.failed)])), (aTp, .inl (cB, 2000, .inl x9.bytes))]) (fun _ => False))) 0 0 (va_A [(aSo, .inr (3, [.ref aTp, .int (iI zSo.at_), .int (iI zSo.limit), .int (bI zSo.failed)])), (aTp, .inl (cB, 2000, .inl zSo.bytes))] sz) := by
  refine ex_ofW (cc := b_So_require) (maxL := 2) (ret := none) (by decide) rfl ?_
  intro p e s m args below meth c s₁ B hml hno hv
  obtain ⟨rfl, hsz, hP, hK, hD0, hE⟩ := hv
  have hx := B.exec
  have hb := B.bytes
  have hr := B.returns
  have hts : ∀ w ∈ lw_good, w.before _ s = true := fun w h => atoms_spec (ws := wx y_So_require b_So_require 2 none) B.pre w (List.mem_cons_of_mem _ h)
  have hown : s.vm.findClass R_So = some m.cls := findClass_of_methodNamed B.named
  have hlocks := B.notSynchronized
  subst hsz
  have hNS := xx_nostat hP
  have hD := hD0.self (sz := s.heap.size)
  generalize hAe : va_A [(aSo, .inr (3, [.ref aTp, .int (iI zSo.at_), .int (iI zSo.limit), .int (bI zSo.failed)])), (aTp, .inl (cB, 2000, .inl zSo.bytes))] s.heap.size = A at hD hE hNS ⊢
  have hA : ∀ q : Nat, s.heap.size ≤ q → A q := fun q h => by rw [← hAe]; exact Or.inr h
  have hS : va_S A s.heap s.heap [] := va_S.rf
  have hl := lv_entry ([.ref aSo, .int (iI v_wanted)]) (n := 2) (Nat.le_of_ble_eq_true rfl)
  rw [lg_entry_eq]
  generalize (lg_sl ([.ref aSo, .int (iI v_wanted)]) ++ List.replicate (2 - (lg_sl ([.ref aSo, .int (iI v_wanted)])).length) Slot.unset).toArray = ls at hl ⊢
  have hl : lv_has ls 2 [(0, .ref aSo), (1, .int (iI v_wanted))] := hl
  unfold f_So_require at hf
  refine lv_aload_n hx hb d_So_require_0 rfl (lv_at hl 0 rfl) ?_
  replace hf := obE hnb hf
  obtain ⟨x_1, e_2, hf⟩ := hf
  refine xx_callV (wc := [(aSo, .inr (3, [.ref aTp, .int (iI zSo.at_), .int (iI zSo.limit), .int (bI zSo.failed)])), (aTp, .inl (cB, 2000, .inl zSo.bytes))]) (wr := []) (As := []) (rest := []) ⟨hx, hb, hml, hown, hts⟩ xE_st hK hE hA (k_So_octet l htr G cB cI cJ cZ cG aSo aTp zSo hzSo (.ret x_1) e_2 ret_nb _) (xw_V 0 hts m_600 m_601 m_602 m_3 m_603 (by decide +kernel) ⟨(Nat.le_of_ble_eq_true rfl), (Nat.le_of_ble_eq_true rfl)⟩) hP hD hS [0, 1] [] rfl rfl (by decide +kernel) (by decide +kernel) (by decide +kernel) 0 3 rfl rfl rfl rfl hl.1 rfl (Nat.le_of_ble_eq_true rfl) d_So_require_1 ⟨(Nat.le_of_ble_eq_true rfl), (Nat.le_of_ble_eq_true rfl)⟩ (fun v9 w9 H_1 locs_1 hp hP_1 hD_1 hS_1 => ?_) (fun x9 w9 H9 l9 hp _ _ _ => absurd hp (fun q9 => by obtain ⟨-, ho, -⟩ := q9; cases ho))
  clear hS hD hP
  obtain ⟨hx_1, ho, rfl⟩ := hp
  cases ho
  replace hP_1 : va_P G classes [(aSo, .inr (3, [.ref aTp, .int (iI x_1.1.at_), .int (iI x_1.1.limit), .int (bI x_1.1.failed)])), (aTp, .inl (cB, 2000, .inl x_1.1.bytes))] H_1 := hP_1
  replace hD_1 : va_D A [(aSo, .inr (3, [.ref aTp, .int (iI x_1.1.at_), .int (iI x_1.1.limit), .int (bI x_1.1.failed)])), (aTp, .inl (cB, 2000, .inl x_1.1.bytes))] := hD_1
  refine lv_iload_n hx hb d_So_require_4 rfl (lv_at hl 1 rfl) ?_
  refine jpE hf (fun K_4 hK_4 hf9 => ?_)
  replace hf := hf9
  clear hf9
  have hJK_4 : ∀ (y_3 : KSo), KSo.Ok y_3 → K_4 y_3 = R9 → ∀ (H_1 : Heap) (locs_1 : List Loc), va_P G classes [(aSo, .inr (3, [.ref aTp, .int (iI y_3.at_), .int (iI y_3.limit), .int (bI y_3.failed)])), (aTp, .inl (cB, 2000, .inl y_3.bytes))] H_1 → va_D A [(aSo, .inr (3, [.ref aTp, .int (iI y_3.at_), .int (iI y_3.limit), .int (bI y_3.failed)])), (aTp, .inl (cB, 2000, .inl y_3.bytes))] → va_S A s.heap H_1 locs_1 → ∀ (ls : Array Slot), lv_has ls 2 [(0, .ref aSo), (1, .int (iI v_wanted))] → W p l e (headSpec (wx y_So_require b_So_require 2 none) { frames := 1, cells := 0, slots := 0, locals := 21 }).room s m ([.ref aSo, .int (iI v_wanted)] : List Value).toArray below meth c H_1 locs_1 0 0 (MX below (XQ G classes A (fun o w1 => ozp R9 (fun x9 => (KSo.Ok x9) ∧ o = .returned none ∧ w1 = [(aSo, .inr (3, [.ref aTp, .int (iI x9.at_), .int (iI x9.limit), .int (bI x9.failed)])), (aTp, .inl (cB, 2000, .inl x9.bytes))]) (fun _ => False))) ([.ref aSo, .int (iI v_wanted)] : List Value).toArray s 0 0 A) (F0 m 13 ls []) := by
    intro y_3 hy_3 hf H_3 locs_3 hP_3 hD_3 hS_3 ls hl
    clear hS_1 hD_1 hP_1
    replace hf := (congrFun hK_4 y_3).symm.trans hf
    clear hK_4
    exact ex_W (fun _ h => ex_mq h) (W.vret hx hb hr (fun t ht hW => ⟨⟨_, ozr hf ⟨hy_3, rfl, rfl⟩, by rw [ht]; exact hP_3, hD_3⟩, hS_3.F ht⟩) hS_3.2.2 d_So_require_13)
  clear hK_4
  refine lv_icmp_eq (tgt := 13) hx hb d_So_require_5 (by decide) (fun c_5 => ?_) (fun c_5 => ?_)
  · have c_5 := ((zv_eq (iI_t hx_1.2) (iI_t hv_wanted))).mp c_5
    replace hf := ifp c_5 hf
    exact hJK_4 x_1.1 hx_1.1 hf _ _ hP_1 hD_1 hS_1 _ (lv_sub hl [0, 1] rfl)
  · have c_5 := (fun q9 => c_5 (((zv_eq (iI_t hx_1.2) (iI_t hv_wanted))).mpr q9))
    replace hf := ifn c_5 hf
    refine lv_aload_n hx hb d_So_require_8 rfl (lv_at hl 0 rfl) ?_
    refine lv_iconst (v := iI 1) hx hb d_So_require_9 (by decide) ?_
    refine W.eq (g2 := F0 m 10 ls [.int (bI true), .ref aSo]) (by rfl) ?_
    refine va_put (D := G) (ci := 3) (v := .int (bI true)) (ty := .boolean) (C := R_So) (T := F_So) (N := 4) hx hb hts i_So t_So t_So_ok n_So hown hK hP_1 hD_1 hS_1 0 rfl rfl 3 (by decide) (hts _ m_51) (fun _ h9 => h9) rfl (by decide +kernel) (bI_nar _) (bI_fit _) (Nat.le_of_ble_eq_true rfl) d_So_require_10 (fun H_4 locs_4 hP_4 hD_4 hS_4 => ?_)
    clear hS_1 hD_1 hP_1
    replace hP_4 : va_P G classes [(aSo, .inr (3, [.ref aTp, .int (iI x_1.1.at_), .int (iI x_1.1.limit), .int (bI true)])), (aTp, .inl (cB, 2000, .inl x_1.1.bytes))] H_4 := hP_4
    replace hD_4 : va_D A [(aSo, .inr (3, [.ref aTp, .int (iI x_1.1.at_), .int (iI x_1.1.limit), .int (bI true)])), (aTp, .inl (cB, 2000, .inl x_1.1.bytes))] := hD_4
    exact hJK_4 (KSo.mk x_1.1.at_ x_1.1.limit true x_1.1.bytes) (KSo.Ok.mk hx_1.1.at_ hx_1.1.limit : KSo.Ok (KSo.mk x_1.1.at_ x_1.1.limit true x_1.1.bytes)) hf _ _ hP_4 hD_4 hS_4 _ (lv_sub hl [0, 1] rfl)
set_option maxHeartbeats 8000000 in
set_option maxRecDepth 100000 in
theorem k_So_flag (l : Launch) (htr : l.stackTraces = false) (G : va_G) (cB cI cJ cZ cG : ClassId) (aSo : Nat) (aTp : Nat) (zSo : KSo) (hzSo : KSo.Ok zSo) (R9 : Out Empty (KSo × Bool)) (hf : f_So_flag zSo = R9) (hnb : R9 ≠ .bad) (sz : Nat) : MetX l y_So_flag (wx y_So_flag b_So_flag 2 (some .boolean)) { frames := 1, cells := 0, slots := 0, locals := 21 } (XP G classes (xtys cB cI cJ cZ cG) xE [.ref aSo] [(aSo, .inr (3, [.ref aTp, .int (iI zSo.at_), .int (iI zSo.limit), .int (bI zSo.failed)])), (aTp, .inl (cB, 2000, .inl zSo.bytes))] sz) (XQ G classes (va_A [(aSo, .inr (3, [.ref aTp, .int (iI zSo.at_), .int (iI zSo.limit), .int (bI zSo.failed)])), (aTp, .inl (cB, 2000, .inl zSo.bytes))] sz) (fun o w1 => ozp R9 (fun x9 => (KSo.Ok x9.1) ∧ o = .returned (some (.int (bI x9.2))) ∧ w1 = [(aSo, .inr (3, [.ref aTp, .int (iI x9.1.at_), .int (iI x9.1.limit), .int (bI x9.1.failed)])), (aTp, .inl (cB, 2000, .inl x9.1.bytes))]) (fun _ => False))) 0 0 (va_A [(aSo, .inr (3, [.ref aTp, .int (iI zSo.at_), .int (iI zSo.limit), .int (bI zSo.failed)])), (aTp, .inl (cB, 2000, .inl zSo.bytes))] sz) := by
  refine ex_ofW (cc := b_So_flag) (maxL := 2) (ret := (some .boolean)) (by decide) rfl ?_
  intro p e s m args below meth c s₁ B hml hno hv
  obtain ⟨rfl, hsz, hP, hK, hD0, hE⟩ := hv
  have hx := B.exec
  have hb := B.bytes
  have hr := B.returns
  have hts : ∀ w ∈ lw_good, w.before _ s = true := fun w h => atoms_spec (ws := wx y_So_flag b_So_flag 2 (some .boolean)) B.pre w (List.mem_cons_of_mem _ h)
  have hown : s.vm.findClass R_So = some m.cls := findClass_of_methodNamed B.named
  have hlocks := B.notSynchronized
  subst hsz
  have hNS := xx_nostat hP
  have hD := hD0.self (sz := s.heap.size)
  generalize hAe : va_A [(aSo, .inr (3, [.ref aTp, .int (iI zSo.at_), .int (iI zSo.limit), .int (bI zSo.failed)])), (aTp, .inl (cB, 2000, .inl zSo.bytes))] s.heap.size = A at hD hE hNS ⊢
  have hA : ∀ q : Nat, s.heap.size ≤ q → A q := fun q h => by rw [← hAe]; exact Or.inr h
  have hS : va_S A s.heap s.heap [] := va_S.rf
  have hl := lv_entry ([.ref aSo]) (n := 2) (Nat.le_of_ble_eq_true rfl)
  rw [lg_entry_eq]
  generalize (lg_sl ([.ref aSo]) ++ List.replicate (2 - (lg_sl ([.ref aSo])).length) Slot.unset).toArray = ls at hl ⊢
  have hl : lv_has ls 2 [(0, .ref aSo)] := hl
  unfold f_So_flag at hf
  refine lv_aload_n hx hb d_So_flag_0 rfl (lv_at hl 0 rfl) ?_
  replace hf := obE hnb hf
  obtain ⟨x_1, e_2, hf⟩ := hf
  refine xx_callV (wc := [(aSo, .inr (3, [.ref aTp, .int (iI zSo.at_), .int (iI zSo.limit), .int (bI zSo.failed)])), (aTp, .inl (cB, 2000, .inl zSo.bytes))]) (wr := []) (As := []) (rest := []) ⟨hx, hb, hml, hown, hts⟩ xE_st hK hE hA (k_So_octet l htr G cB cI cJ cZ cG aSo aTp zSo hzSo (.ret x_1) e_2 ret_nb _) (xw_V 0 hts m_600 m_601 m_602 m_3 m_603 (by decide +kernel) ⟨(Nat.le_of_ble_eq_true rfl), (Nat.le_of_ble_eq_true rfl)⟩) hP hD hS [0, 1] [] rfl rfl (by decide +kernel) (by decide +kernel) (by decide +kernel) 0 3 rfl rfl rfl rfl hl.1 rfl (Nat.le_of_ble_eq_true rfl) d_So_flag_1 ⟨(Nat.le_of_ble_eq_true rfl), (Nat.le_of_ble_eq_true rfl)⟩ (fun v9 w9 H_1 locs_1 hp hP_1 hD_1 hS_1 => ?_) (fun x9 w9 H9 l9 hp _ _ _ => absurd hp (fun q9 => by obtain ⟨-, ho, -⟩ := q9; cases ho))
  clear hS hD hP
  obtain ⟨hx_1, ho, rfl⟩ := hp
  cases ho
  replace hP_1 : va_P G classes [(aSo, .inr (3, [.ref aTp, .int (iI x_1.1.at_), .int (iI x_1.1.limit), .int (bI x_1.1.failed)])), (aTp, .inl (cB, 2000, .inl x_1.1.bytes))] H_1 := hP_1
  replace hD_1 : va_D A [(aSo, .inr (3, [.ref aTp, .int (iI x_1.1.at_), .int (iI x_1.1.limit), .int (bI x_1.1.failed)])), (aTp, .inl (cB, 2000, .inl x_1.1.bytes))] := hD_1
  refine lv_istore_n (lv' := [(1, .int (iI x_1.2)), (0, .ref aSo)]) hx hb d_So_flag_4 rfl hl (by decide) rfl (fun ls hl => ?_)
  refine lv_iload_n hx hb d_So_flag_5 rfl (lv_at hl 0 rfl) ?_
  refine lv_iconst (v := iI 1) hx hb d_So_flag_6 (by decide) ?_
  refine jpE hf (fun K_4 hK_4 hf9 => ?_)
  replace hf := hf9
  clear hf9
  have hJK_4 : ∀ (y_3 : KSo), KSo.Ok y_3 → K_4 y_3 = R9 → ∀ (H_1 : Heap) (locs_1 : List Loc), va_P G classes [(aSo, .inr (3, [.ref aTp, .int (iI y_3.at_), .int (iI y_3.limit), .int (bI y_3.failed)])), (aTp, .inl (cB, 2000, .inl y_3.bytes))] H_1 → va_D A [(aSo, .inr (3, [.ref aTp, .int (iI y_3.at_), .int (iI y_3.limit), .int (bI y_3.failed)])), (aTp, .inl (cB, 2000, .inl y_3.bytes))] → va_S A s.heap H_1 locs_1 → ∀ (ls : Array Slot), lv_has ls 2 [(0, .ref aSo), (1, .int (iI x_1.2))] → W p l e (headSpec (wx y_So_flag b_So_flag 2 (some .boolean)) { frames := 1, cells := 0, slots := 0, locals := 21 }).room s m ([.ref aSo] : List Value).toArray below meth c H_1 locs_1 0 0 (MX below (XQ G classes A (fun o w1 => ozp R9 (fun x9 => (KSo.Ok x9.1) ∧ o = .returned (some (.int (bI x9.2))) ∧ w1 = [(aSo, .inr (3, [.ref aTp, .int (iI x9.1.at_), .int (iI x9.1.limit), .int (bI x9.1.failed)])), (aTp, .inl (cB, 2000, .inl x9.1.bytes))]) (fun _ => False))) ([.ref aSo] : List Value).toArray s 0 0 A) (F0 m 15 ls []) := by
    intro y_3 hy_3 hf H_4 locs_4 hP_4 hD_4 hS_4 ls hl
    clear hS_1 hD_1 hP_1
    replace hf := (congrFun hK_4 y_3).symm.trans hf
    clear hK_4
    refine lv_iload_n hx hb d_So_flag_15 rfl (lv_at hl 1 rfl) ?_
    refine lv_iconst (v := iI 1) hx hb d_So_flag_16 (by decide) ?_
    refine jpE hf (fun K_6 hK_6 hf9 => ?_)
    replace hf := hf9
    clear hf9
    have hJK_6 : ∀ (y_5 : Bool), True → K_6 y_5 = R9 → ∀ (H_4 : Heap) (locs_4 : List Loc), va_P G classes [(aSo, .inr (3, [.ref aTp, .int (iI y_3.at_), .int (iI y_3.limit), .int (bI y_3.failed)])), (aTp, .inl (cB, 2000, .inl y_3.bytes))] H_4 → va_D A [(aSo, .inr (3, [.ref aTp, .int (iI y_3.at_), .int (iI y_3.limit), .int (bI y_3.failed)])), (aTp, .inl (cB, 2000, .inl y_3.bytes))] → va_S A s.heap H_4 locs_4 → ∀ (ls : Array Slot), lv_has ls 2 [(0, .ref aSo), (1, .int (iI x_1.2))] → W p l e (headSpec (wx y_So_flag b_So_flag 2 (some .boolean)) { frames := 1, cells := 0, slots := 0, locals := 21 }).room s m ([.ref aSo] : List Value).toArray below meth c H_4 locs_4 0 0 (MX below (XQ G classes A (fun o w1 => ozp R9 (fun x9 => (KSo.Ok x9.1) ∧ o = .returned (some (.int (bI x9.2))) ∧ w1 = [(aSo, .inr (3, [.ref aTp, .int (iI x9.1.at_), .int (iI x9.1.limit), .int (bI x9.1.failed)])), (aTp, .inl (cB, 2000, .inl x9.1.bytes))]) (fun _ => False))) ([.ref aSo] : List Value).toArray s 0 0 A) (F0 m 25 ls [.int (bI y_5)]) := by
      intro y_5 hy_5 hf H_5 locs_5 hP_5 hD_5 hS_5 ls hl
      clear hS_4 hD_4 hP_4
      replace hf := (congrFun hK_6 y_5).symm.trans hf
      clear hK_6
      exact ex_W (fun _ h => ex_mq h) (W.zret (v := bI y_5) hx hb hr (bI_nar _) (fun t ht hW => ⟨⟨_, ozr hf ⟨hy_3, rfl, rfl⟩, by rw [ht]; exact hP_5, hD_5⟩, hS_5.F ht⟩) hS_5.2.2 d_So_flag_25)
    clear hK_6
    refine lv_icmp_ne (tgt := 24) hx hb d_So_flag_17 (by decide) (fun c_7 => ?_) (fun c_7 => ?_)
    · have c_7 := (fun q9 => c_7 (((zv_eq (iI_t hx_1.2) (iI_t (show R32 (1) by decide)))).mpr q9))
      replace hf := ifn c_7 hf
      refine lv_iconst (v := iI 0) hx hb d_So_flag_24 (by decide) ?_
      refine W.eq (g2 := F0 m 25 ls [.int (bI false)]) (by rfl) ?_
      exact hJK_6 false trivial hf _ _ hP_4 hD_4 hS_4 _ (lv_sub hl [0, 1] rfl)
    · have c_7 := ((zv_eq (iI_t hx_1.2) (iI_t (show R32 (1) by decide)))).mp c_7
      replace hf := ifp c_7 hf
      refine lv_iconst (v := iI 1) hx hb d_So_flag_20 (by decide) ?_
      refine lv_goto (tgt := 25) hx hb d_So_flag_21 (by decide) ?_
      refine W.eq (g2 := F0 m 25 ls [.int (bI true)]) (by rfl) ?_
      exact hJK_6 true trivial hf _ _ hP_4 hD_4 hS_4 _ (lv_sub hl [0, 1] rfl)
  clear hK_4
  refine lv_icmp_le (tgt := 15) hx hb d_So_flag_7 (by decide) (fun c_8 => ?_) (fun c_8 => ?_)
  · have c_8 := ((zv_le (iI_t hx_1.2) (iI_t (show R32 (1) by decide)))).mp c_8
    replace hf := ifp c_8 hf
    exact hJK_4 x_1.1 hx_1.1 hf _ _ hP_1 hD_1 hS_1 _ (lv_sub hl [1, 0] rfl)
  · have c_8 := (fun q9 => c_8 (((zv_le (iI_t hx_1.2) (iI_t (show R32 (1) by decide)))).mpr q9))
    replace hf := ifn c_8 hf
    refine lv_aload_n hx hb d_So_flag_10 rfl (lv_at hl 1 rfl) ?_
    refine lv_iconst (v := iI 1) hx hb d_So_flag_11 (by decide) ?_
    refine W.eq (g2 := F0 m 12 ls [.int (bI true), .ref aSo]) (by rfl) ?_
    refine va_put (D := G) (ci := 3) (v := .int (bI true)) (ty := .boolean) (C := R_So) (T := F_So) (N := 4) hx hb hts i_So t_So t_So_ok n_So hown hK hP_1 hD_1 hS_1 0 rfl rfl 3 (by decide) (hts _ m_51) (fun _ h9 => h9) rfl (by decide +kernel) (bI_nar _) (bI_fit _) (Nat.le_of_ble_eq_true rfl) d_So_flag_12 (fun H_6 locs_6 hP_6 hD_6 hS_6 => ?_)
    clear hS_1 hD_1 hP_1
    replace hP_6 : va_P G classes [(aSo, .inr (3, [.ref aTp, .int (iI x_1.1.at_), .int (iI x_1.1.limit), .int (bI true)])), (aTp, .inl (cB, 2000, .inl x_1.1.bytes))] H_6 := hP_6
    replace hD_6 : va_D A [(aSo, .inr (3, [.ref aTp, .int (iI x_1.1.at_), .int (iI x_1.1.limit), .int (bI true)])), (aTp, .inl (cB, 2000, .inl x_1.1.bytes))] := hD_6
    exact hJK_4 (KSo.mk x_1.1.at_ x_1.1.limit true x_1.1.bytes) (KSo.Ok.mk hx_1.1.at_ hx_1.1.limit : KSo.Ok (KSo.mk x_1.1.at_ x_1.1.limit true x_1.1.bytes)) hf _ _ hP_6 hD_6 hS_6 _ (lv_sub hl [1, 0] rfl)
set_option maxHeartbeats 8000000 in
set_option maxRecDepth 100000 in
theorem k_So_valueType (l : Launch) (htr : l.stackTraces = false) (G : va_G) (cB cI cJ cZ cG : ClassId) (aSo : Nat) (aTp : Nat) (zSo : KSo) (hzSo : KSo.Ok zSo) (R9 : Out Empty (KSo × Int)) (hf : f_So_valueType zSo = R9) (hnb : R9 ≠ .bad) (sz : Nat) : MetX l y_So_valueType (wx y_So_valueType b_So_valueType 2 (some .int)) { frames := 1, cells := 0, slots := 0, locals := 21 } (XP G classes (xtys cB cI cJ cZ cG) xE [.ref aSo] [(aSo, .inr (3, [.ref aTp, .int (iI zSo.at_), .int (iI zSo.limit), .int (bI zSo.failed)])), (aTp, .inl (cB, 2000, .inl zSo.bytes))] sz) (XQ G classes (va_A [(aSo, .inr (3, [.ref aTp, .int (iI zSo.at_), .int (iI zSo.limit), .int (bI zSo.failed)])), (aTp, .inl (cB, 2000, .inl zSo.bytes))] sz) (fun o w1 => ozp R9 (fun x9 => (KSo.Ok x9.1 ∧ R32 x9.2) ∧ o = .returned (some (.int (iI x9.2))) ∧ w1 = [(aSo, .inr (3, [.ref aTp, .int (iI x9.1.at_), .int (iI x9.1.limit), .int (bI x9.1.failed)])), (aTp, .inl (cB, 2000, .inl x9.1.bytes))]) (fun _ => False))) 0 0 (va_A [(aSo, .inr (3, [.ref aTp, .int (iI zSo.at_), .int (iI zSo.limit), .int (bI zSo.failed)])), (aTp, .inl (cB, 2000, .inl zSo.bytes))] sz) := by
  refine ex_ofW (cc := b_So_valueType) (maxL := 2) (ret := (some .int)) (by decide) rfl ?_
  intro p e s m args below meth c s₁ B hml hno hv
  obtain ⟨rfl, hsz, hP, hK, hD0, hE⟩ := hv
  have hx := B.exec
  have hb := B.bytes
  have hr := B.returns
  have hts : ∀ w ∈ lw_good, w.before _ s = true := fun w h => atoms_spec (ws := wx y_So_valueType b_So_valueType 2 (some .int)) B.pre w (List.mem_cons_of_mem _ h)
  have hown : s.vm.findClass R_So = some m.cls := findClass_of_methodNamed B.named
  have hlocks := B.notSynchronized
  subst hsz
  have hNS := xx_nostat hP
  have hD := hD0.self (sz := s.heap.size)
  generalize hAe : va_A [(aSo, .inr (3, [.ref aTp, .int (iI zSo.at_), .int (iI zSo.limit), .int (bI zSo.failed)])), (aTp, .inl (cB, 2000, .inl zSo.bytes))] s.heap.size = A at hD hE hNS ⊢
  have hA : ∀ q : Nat, s.heap.size ≤ q → A q := fun q h => by rw [← hAe]; exact Or.inr h
  have hS : va_S A s.heap s.heap [] := va_S.rf
  have hl := lv_entry ([.ref aSo]) (n := 2) (Nat.le_of_ble_eq_true rfl)
  rw [lg_entry_eq]
  generalize (lg_sl ([.ref aSo]) ++ List.replicate (2 - (lg_sl ([.ref aSo])).length) Slot.unset).toArray = ls at hl ⊢
  have hl : lv_has ls 2 [(0, .ref aSo)] := hl
  unfold f_So_valueType at hf
  refine lv_aload_n hx hb d_So_valueType_0 rfl (lv_at hl 0 rfl) ?_
  replace hf := obE hnb hf
  obtain ⟨x_1, e_2, hf⟩ := hf
  refine xx_callV (wc := [(aSo, .inr (3, [.ref aTp, .int (iI zSo.at_), .int (iI zSo.limit), .int (bI zSo.failed)])), (aTp, .inl (cB, 2000, .inl zSo.bytes))]) (wr := []) (As := []) (rest := []) ⟨hx, hb, hml, hown, hts⟩ xE_st hK hE hA (k_So_octet l htr G cB cI cJ cZ cG aSo aTp zSo hzSo (.ret x_1) e_2 ret_nb _) (xw_V 0 hts m_600 m_601 m_602 m_3 m_603 (by decide +kernel) ⟨(Nat.le_of_ble_eq_true rfl), (Nat.le_of_ble_eq_true rfl)⟩) hP hD hS [0, 1] [] rfl rfl (by decide +kernel) (by decide +kernel) (by decide +kernel) 0 3 rfl rfl rfl rfl hl.1 rfl (Nat.le_of_ble_eq_true rfl) d_So_valueType_1 ⟨(Nat.le_of_ble_eq_true rfl), (Nat.le_of_ble_eq_true rfl)⟩ (fun v9 w9 H_1 locs_1 hp hP_1 hD_1 hS_1 => ?_) (fun x9 w9 H9 l9 hp _ _ _ => absurd hp (fun q9 => by obtain ⟨-, ho, -⟩ := q9; cases ho))
  clear hS hD hP
  obtain ⟨hx_1, ho, rfl⟩ := hp
  cases ho
  replace hP_1 : va_P G classes [(aSo, .inr (3, [.ref aTp, .int (iI x_1.1.at_), .int (iI x_1.1.limit), .int (bI x_1.1.failed)])), (aTp, .inl (cB, 2000, .inl x_1.1.bytes))] H_1 := hP_1
  replace hD_1 : va_D A [(aSo, .inr (3, [.ref aTp, .int (iI x_1.1.at_), .int (iI x_1.1.limit), .int (bI x_1.1.failed)])), (aTp, .inl (cB, 2000, .inl x_1.1.bytes))] := hD_1
  refine lv_istore_n (lv' := [(1, .int (iI x_1.2)), (0, .ref aSo)]) hx hb d_So_valueType_4 rfl hl (by decide) rfl (fun ls hl => ?_)
  refine lv_iload_n hx hb d_So_valueType_5 rfl (lv_at hl 0 rfl) ?_
  refine lv_bipush (v := iI 127) hx hb d_So_valueType_6 (by decide) ?_
  refine jpE hf (fun K_4 hK_4 hf9 => ?_)
  replace hf := hf9
  clear hf9
  have hJK_4 : ∀ (y_3 : KSo), KSo.Ok y_3 → K_4 y_3 = R9 → ∀ (H_1 : Heap) (locs_1 : List Loc), va_P G classes [(aSo, .inr (3, [.ref aTp, .int (iI y_3.at_), .int (iI y_3.limit), .int (bI y_3.failed)])), (aTp, .inl (cB, 2000, .inl y_3.bytes))] H_1 → va_D A [(aSo, .inr (3, [.ref aTp, .int (iI y_3.at_), .int (iI y_3.limit), .int (bI y_3.failed)])), (aTp, .inl (cB, 2000, .inl y_3.bytes))] → va_S A s.heap H_1 locs_1 → ∀ (ls : Array Slot), lv_has ls 2 [(0, .ref aSo), (1, .int (iI x_1.2))] → W p l e (headSpec (wx y_So_valueType b_So_valueType 2 (some .int)) { frames := 1, cells := 0, slots := 0, locals := 21 }).room s m ([.ref aSo] : List Value).toArray below meth c H_1 locs_1 0 0 (MX below (XQ G classes A (fun o w1 => ozp R9 (fun x9 => (KSo.Ok x9.1 ∧ R32 x9.2) ∧ o = .returned (some (.int (iI x9.2))) ∧ w1 = [(aSo, .inr (3, [.ref aTp, .int (iI x9.1.at_), .int (iI x9.1.limit), .int (bI x9.1.failed)])), (aTp, .inl (cB, 2000, .inl x9.1.bytes))]) (fun _ => False))) ([.ref aSo] : List Value).toArray s 0 0 A) (F0 m 22 ls []) := by
    intro y_3 hy_3 hf H_3 locs_3 hP_3 hD_3 hS_3 ls hl
    clear hS_1 hD_1 hP_1
    replace hf := (congrFun hK_4 y_3).symm.trans hf
    clear hK_4
    refine lv_iload_n hx hb d_So_valueType_22 rfl (lv_at hl 1 rfl) ?_
    exact ex_W (fun _ h => ex_mq h) (W.iret (v := iI x_1.2) hx hb hr (fun t ht hW => ⟨⟨_, ozr hf ⟨⟨hy_3, hx_1.2⟩, rfl, rfl⟩, by rw [ht]; exact hP_3, hD_3⟩, hS_3.F ht⟩) hS_3.2.2 d_So_valueType_23)
  clear hK_4
  refine lv_icmp_eq (tgt := 22) hx hb d_So_valueType_8 (by decide) (fun c_5 => ?_) (fun c_5 => ?_)
  · have c_5 := ((zv_eq (iI_t hx_1.2) (iI_t (show R32 (127) by decide)))).mp c_5
    replace hf := ifp c_5 hf
    exact hJK_4 x_1.1 hx_1.1 hf _ _ hP_1 hD_1 hS_1 _ (lv_sub hl [1, 0] rfl)
  · have c_5 := (fun q9 => c_5 (((zv_eq (iI_t hx_1.2) (iI_t (show R32 (127) by decide)))).mpr q9))
    replace hf := ifn c_5 hf
    refine lv_iload_n hx hb d_So_valueType_11 rfl (lv_at hl 0 rfl) ?_
    refine lv_bipush (v := iI 126) hx hb d_So_valueType_12 (by decide) ?_
    refine lv_icmp_eq (tgt := 22) hx hb d_So_valueType_14 (by decide) (fun c_6 => ?_) (fun c_6 => ?_)
    · have c_6 := ((zv_eq (iI_t hx_1.2) (iI_t (show R32 (126) by decide)))).mp c_6
      replace hf := ifp c_6 hf
      exact hJK_4 x_1.1 hx_1.1 hf _ _ hP_1 hD_1 hS_1 _ (lv_sub hl [1, 0] rfl)
    · have c_6 := (fun q9 => c_6 (((zv_eq (iI_t hx_1.2) (iI_t (show R32 (126) by decide)))).mpr q9))
      replace hf := ifn c_6 hf
      refine lv_aload_n hx hb d_So_valueType_17 rfl (lv_at hl 1 rfl) ?_
      refine lv_iconst (v := iI 1) hx hb d_So_valueType_18 (by decide) ?_
      refine W.eq (g2 := F0 m 19 ls [.int (bI true), .ref aSo]) (by rfl) ?_
      refine va_put (D := G) (ci := 3) (v := .int (bI true)) (ty := .boolean) (C := R_So) (T := F_So) (N := 4) hx hb hts i_So t_So t_So_ok n_So hown hK hP_1 hD_1 hS_1 0 rfl rfl 3 (by decide) (hts _ m_51) (fun _ h9 => h9) rfl (by decide +kernel) (bI_nar _) (bI_fit _) (Nat.le_of_ble_eq_true rfl) d_So_valueType_19 (fun H_4 locs_4 hP_4 hD_4 hS_4 => ?_)
      clear hS_1 hD_1 hP_1
      replace hP_4 : va_P G classes [(aSo, .inr (3, [.ref aTp, .int (iI x_1.1.at_), .int (iI x_1.1.limit), .int (bI true)])), (aTp, .inl (cB, 2000, .inl x_1.1.bytes))] H_4 := hP_4
      replace hD_4 : va_D A [(aSo, .inr (3, [.ref aTp, .int (iI x_1.1.at_), .int (iI x_1.1.limit), .int (bI true)])), (aTp, .inl (cB, 2000, .inl x_1.1.bytes))] := hD_4
      exact hJK_4 (KSo.mk x_1.1.at_ x_1.1.limit true x_1.1.bytes) (KSo.Ok.mk hx_1.1.at_ hx_1.1.limit : KSo.Ok (KSo.mk x_1.1.at_ x_1.1.limit true x_1.1.bytes)) hf _ _ hP_4 hD_4 hS_4 _ (lv_sub hl [1, 0] rfl)
set_option maxHeartbeats 8000000 in
set_option maxRecDepth 100000 in
theorem k_So_left (l : Launch) (htr : l.stackTraces = false) (G : va_G) (cB cI cJ cZ cG : ClassId) (aSo : Nat) (aTp : Nat) (zSo : KSo) (hzSo : KSo.Ok zSo) (R9 : Out Empty (Int)) (hf : f_So_left zSo = R9) (hnb : R9 ≠ .bad) (sz : Nat) : MetX l y_So_left (wx y_So_left b_So_left 1 (some .int)) { frames := 0, cells := 0, slots := 0, locals := 0 } (XP G classes (xtys cB cI cJ cZ cG) xE [.ref aSo] [(aSo, .inr (3, [.ref aTp, .int (iI zSo.at_), .int (iI zSo.limit), .int (bI zSo.failed)]))] sz) (XQ G classes (va_A [(aSo, .inr (3, [.ref aTp, .int (iI zSo.at_), .int (iI zSo.limit), .int (bI zSo.failed)]))] sz) (fun o w1 => ozp R9 (fun x9 => (R32 x9) ∧ o = .returned (some (.int (iI x9))) ∧ w1 = [(aSo, .inr (3, [.ref aTp, .int (iI zSo.at_), .int (iI zSo.limit), .int (bI zSo.failed)]))]) (fun _ => False))) 0 0 (va_A [(aSo, .inr (3, [.ref aTp, .int (iI zSo.at_), .int (iI zSo.limit), .int (bI zSo.failed)]))] sz) := by
  refine ex_ofW (cc := b_So_left) (maxL := 1) (ret := (some .int)) (by decide) rfl ?_
  intro p e s m args below meth c s₁ B hml hno hv
  obtain ⟨rfl, hsz, hP, hK, hD0, hE⟩ := hv
  have hx := B.exec
  have hb := B.bytes
  have hr := B.returns
  have hts : ∀ w ∈ lw_good, w.before _ s = true := fun w h => atoms_spec (ws := wx y_So_left b_So_left 1 (some .int)) B.pre w (List.mem_cons_of_mem _ h)
  have hown : s.vm.findClass R_So = some m.cls := findClass_of_methodNamed B.named
  have hlocks := B.notSynchronized
  subst hsz
  have hNS := xx_nostat hP
  have hD := hD0.self (sz := s.heap.size)
  generalize hAe : va_A [(aSo, .inr (3, [.ref aTp, .int (iI zSo.at_), .int (iI zSo.limit), .int (bI zSo.failed)]))] s.heap.size = A at hD hE hNS ⊢
  have hA : ∀ q : Nat, s.heap.size ≤ q → A q := fun q h => by rw [← hAe]; exact Or.inr h
  have hS : va_S A s.heap s.heap [] := va_S.rf
  have hl := lv_entry ([.ref aSo]) (n := 1) (Nat.le_of_ble_eq_true rfl)
  rw [lg_entry_eq]
  generalize (lg_sl ([.ref aSo]) ++ List.replicate (1 - (lg_sl ([.ref aSo])).length) Slot.unset).toArray = ls at hl ⊢
  have hl : lv_has ls 1 [(0, .ref aSo)] := hl
  unfold f_So_left at hf
  refine lv_aload_n hx hb d_So_left_0 rfl (lv_at hl 0 rfl) ?_
  refine va_get (D := G) (ci := 3) (v := .int (iI zSo.limit)) (C := R_So) (T := F_So) (N := 4) hx hb hts i_So hown hK hP 0 rfl rfl 2 (by decide) (hts _ m_50) (fun _ h9 => h9) rfl d_So_left_1 ?_
  refine lv_aload_n hx hb d_So_left_4 rfl (lv_at hl 0 rfl) ?_
  refine va_get (D := G) (ci := 3) (v := .int (iI zSo.at_)) (C := R_So) (T := F_So) (N := 4) hx hb hts i_So hown hK hP 0 rfl rfl 1 (by decide) (hts _ m_49) (fun _ h9 => h9) rfl d_So_left_5 ?_
  refine lv_isub hx hb d_So_left_8 ?_
  refine lv_topi (fun x9 e9 => ?_)
  obtain rfl : x9 = iI (zSo.limit - zSo.at_) := e9.trans (iI_sub _ _)
  replace hf := grd hnb hf
  obtain ⟨g_1, hf⟩ := hf
  exact ex_W (fun _ h => ex_mq h) (W.iret (v := iI (zSo.limit - zSo.at_)) hx hb hr (fun t ht hW => ⟨⟨_, ozr hf ⟨g_1, rfl, rfl⟩, by rw [ht]; exact hP, hD⟩, hS.F ht⟩) hS.2.2 d_So_left_9)
set_option maxHeartbeats 8000000 in
set_option maxRecDepth 100000 in
theorem k_So_skipRest (l : Launch) (htr : l.stackTraces = false) (G : va_G) (cB cI cJ cZ cG : ClassId) (aSo : Nat) (aTp : Nat) (zSo : KSo) (hzSo : KSo.Ok zSo) (R9 : Out Empty (KSo)) (hf : f_So_skipRest zSo = R9) (hnb : R9 ≠ .bad) (sz : Nat) : MetX l y_So_skipRest (wx y_So_skipRest b_So_skipRest 1 none) { frames := 0, cells := 0, slots := 0, locals := 0 } (XP G classes (xtys cB cI cJ cZ cG) xE [.ref aSo] [(aSo, .inr (3, [.ref aTp, .int (iI zSo.at_), .int (iI zSo.limit), .int (bI zSo.failed)])), (aTp, .inl (cB, 2000, .inl zSo.bytes))] sz) (XQ G classes (va_A [(aSo, .inr (3, [.ref aTp, .int (iI zSo.at_), .int (iI zSo.limit), .int (bI zSo.failed)])), (aTp, .inl (cB, 2000, .inl zSo.bytes))] sz) (fun o w1 => ozp R9 (fun x9 => (KSo.Ok x9) ∧ o = .returned none ∧ w1 = [(aSo, .inr (3, [.ref aTp, .int (iI x9.at_), .int (iI x9.limit), .int (bI x9.failed)])), (aTp, .inl (cB, 2000, .inl x9.bytes))]) (fun _ => False))) 0 0 (va_A [(aSo, .inr (3, [.ref aTp, .int (iI zSo.at_), .int (iI zSo.limit), .int (bI zSo.failed)])), (aTp, .inl (cB, 2000, .inl zSo.bytes))] sz) := by
  refine ex_ofW (cc := b_So_skipRest) (maxL := 1) (ret := none) (by decide) rfl ?_
  intro p e s m args below meth c s₁ B hml hno hv
  obtain ⟨rfl, hsz, hP, hK, hD0, hE⟩ := hv
  have hx := B.exec
  have hb := B.bytes
  have hr := B.returns
  have hts : ∀ w ∈ lw_good, w.before _ s = true := fun w h => atoms_spec (ws := wx y_So_skipRest b_So_skipRest 1 none) B.pre w (List.mem_cons_of_mem _ h)
  have hown : s.vm.findClass R_So = some m.cls := findClass_of_methodNamed B.named
  have hlocks := B.notSynchronized
  subst hsz
  have hNS := xx_nostat hP
  have hD := hD0.self (sz := s.heap.size)
  generalize hAe : va_A [(aSo, .inr (3, [.ref aTp, .int (iI zSo.at_), .int (iI zSo.limit), .int (bI zSo.failed)])), (aTp, .inl (cB, 2000, .inl zSo.bytes))] s.heap.size = A at hD hE hNS ⊢
  have hA : ∀ q : Nat, s.heap.size ≤ q → A q := fun q h => by rw [← hAe]; exact Or.inr h
  have hS : va_S A s.heap s.heap [] := va_S.rf
  have hl := lv_entry ([.ref aSo]) (n := 1) (Nat.le_of_ble_eq_true rfl)
  rw [lg_entry_eq]
  generalize (lg_sl ([.ref aSo]) ++ List.replicate (1 - (lg_sl ([.ref aSo])).length) Slot.unset).toArray = ls at hl ⊢
  have hl : lv_has ls 1 [(0, .ref aSo)] := hl
  unfold f_So_skipRest at hf
  refine lv_aload_n hx hb d_So_skipRest_0 rfl (lv_at hl 0 rfl) ?_
  refine lv_aload_n hx hb d_So_skipRest_1 rfl (lv_at hl 0 rfl) ?_
  refine va_get (D := G) (ci := 3) (v := .int (iI zSo.limit)) (C := R_So) (T := F_So) (N := 4) hx hb hts i_So hown hK hP 0 rfl rfl 2 (by decide) (hts _ m_50) (fun _ h9 => h9) rfl d_So_skipRest_2 ?_
  refine va_put (D := G) (ci := 3) (v := .int (iI zSo.limit)) (ty := .int) (C := R_So) (T := F_So) (N := 4) hx hb hts i_So t_So t_So_ok n_So hown hK hP hD hS 0 rfl rfl 1 (by decide) (hts _ m_49) (fun _ h9 => h9) rfl (by decide +kernel) rfl rfl (Nat.le_of_ble_eq_true rfl) d_So_skipRest_5 (fun H_1 locs_1 hP_1 hD_1 hS_1 => ?_)
  clear hS hD hP
  replace hP_1 : va_P G classes [(aSo, .inr (3, [.ref aTp, .int (iI zSo.limit), .int (iI zSo.limit), .int (bI zSo.failed)])), (aTp, .inl (cB, 2000, .inl zSo.bytes))] H_1 := hP_1
  replace hD_1 : va_D A [(aSo, .inr (3, [.ref aTp, .int (iI zSo.limit), .int (iI zSo.limit), .int (bI zSo.failed)])), (aTp, .inl (cB, 2000, .inl zSo.bytes))] := hD_1
  exact ex_W (fun _ h => ex_mq h) (W.vret hx hb hr (fun t ht hW => ⟨⟨_, ozr hf ⟨(KSo.Ok.mk hzSo.limit hzSo.limit : KSo.Ok (KSo.mk zSo.limit zSo.limit zSo.failed zSo.bytes)), rfl, rfl⟩, by rw [ht]; exact hP_1, hD_1⟩, hS_1.F ht⟩) hS_1.2.2 d_So_skipRest_8)
set_option maxHeartbeats 8000000 in
set_option maxRecDepth 100000 in
theorem k_So_widen (l : Launch) (htr : l.stackTraces = false) (G : va_G) (cB cI cJ cZ cG : ClassId) (aSo : Nat) (aTp : Nat) (zSo : KSo) (hzSo : KSo.Ok zSo) (v_outer : Int) (hv_outer : R32 v_outer) (R9 : Out Empty (KSo)) (hf : f_So_widen zSo v_outer = R9) (hnb : R9 ≠ .bad) (sz : Nat) : MetX l y_So_widen (wx y_So_widen b_So_widen 2 none) { frames := 0, cells := 0, slots := 0, locals := 0 } (XP G classes (xtys cB cI cJ cZ cG) xE [.ref aSo, .int (iI v_outer)] [(aSo, .inr (3, [.ref aTp, .int (iI zSo.at_), .int (iI zSo.limit), .int (bI zSo.failed)])), (aTp, .inl (cB, 2000, .inl zSo.bytes))] sz) (XQ G classes (va_A [(aSo, .inr (3, [.ref aTp, .int (iI zSo.at_), .int (iI zSo.limit), .int (bI zSo.failed)])), (aTp, .inl (cB, 2000, .inl zSo.bytes))] sz) (fun o w1 => ozp R9 (fun x9 => (KSo.Ok x9) ∧ o = .returned none ∧ w1 = [(aSo, .inr (3, [.ref aTp, .int (iI x9.at_), .int (iI x9.limit), .int (bI x9.failed)])), (aTp, .inl (cB, 2000, .inl x9.bytes))]) (fun _ => False))) 0 0 (va_A [(aSo, .inr (3, [.ref aTp, .int (iI zSo.at_), .int (iI zSo.limit), .int (bI zSo.failed)])), (aTp, .inl (cB, 2000, .inl zSo.bytes))] sz) := by
  refine ex_ofW (cc := b_So_widen) (maxL := 2) (ret := none) (by decide) rfl ?_
  intro p e s m args below meth c s₁ B hml hno hv
  obtain ⟨rfl, hsz, hP, hK, hD0, hE⟩ := hv
  have hx := B.exec
  have hb := B.bytes
  have hr := B.returns
  have hts : ∀ w ∈ lw_good, w.before _ s = true := fun w h => atoms_spec (ws := wx y_So_widen b_So_widen 2 none) B.pre w (List.mem_cons_of_mem _ h)
  have hown : s.vm.findClass R_So = some m.cls := findClass_of_methodNamed B.named
  have hlocks := B.notSynchronized
  subst hsz
  have hNS := xx_nostat hP
  have hD := hD0.self (sz := s.heap.size)
  generalize hAe : va_A [(aSo, .inr (3, [.ref aTp, .int (iI zSo.at_), .int (iI zSo.limit), .int (bI zSo.failed)])), (aTp, .inl (cB, 2000, .inl zSo.bytes))] s.heap.size = A at hD hE hNS ⊢
  have hA : ∀ q : Nat, s.heap.size ≤ q → A q := fun q h => by rw [← hAe]; exact Or.inr h
  have hS : va_S A s.heap s.heap [] := va_S.rf
  have hl := lv_entry ([.ref aSo, .int (iI v_outer)]) (n := 2) (Nat.le_of_ble_eq_true rfl)
  rw [lg_entry_eq]
  generalize (lg_sl ([.ref aSo, .int (iI v_outer)]) ++ List.replicate (2 - (lg_sl ([.ref aSo, .int (iI v_outer)])).length) Slot.unset).toArray = ls at hl ⊢
  have hl : lv_has ls 2 [(0, .ref aSo), (1, .int (iI v_outer))] := hl
  unfold f_So_widen at hf
  refine lv_aload_n hx hb d_So_widen_0 rfl (lv_at hl 0 rfl) ?_
  refine va_get (D := G) (ci := 3) (v := .int (iI zSo.at_)) (C := R_So) (T := F_So) (N := 4) hx hb hts i_So hown hK hP 0 rfl rfl 1 (by decide) (hts _ m_49) (fun _ h9 => h9) rfl d_So_widen_1 ?_
  refine lv_aload_n hx hb d_So_widen_4 rfl (lv_at hl 0 rfl) ?_
  refine va_get (D := G) (ci := 3) (v := .int (iI zSo.limit)) (C := R_So) (T := F_So) (N := 4) hx hb hts i_So hown hK hP 0 rfl rfl 2 (by decide) (hts _ m_50) (fun _ h9 => h9) rfl d_So_widen_5 ?_
  refine jpE hf (fun K_2 hK_2 hf9 => ?_)
  replace hf := hf9
  clear hf9
  have hJK_2 : ∀ (y_1 : KSo), KSo.Ok y_1 → K_2 y_1 = R9 → ∀ (H : Heap) (locs : List Loc), va_P G classes [(aSo, .inr (3, [.ref aTp, .int (iI y_1.at_), .int (iI y_1.limit), .int (bI y_1.failed)])), (aTp, .inl (cB, 2000, .inl y_1.bytes))] H → va_D A [(aSo, .inr (3, [.ref aTp, .int (iI y_1.at_), .int (iI y_1.limit), .int (bI y_1.failed)])), (aTp, .inl (cB, 2000, .inl y_1.bytes))] → va_S A s.heap H locs → ∀ (ls : Array Slot), lv_has ls 2 [(0, .ref aSo), (1, .int (iI v_outer))] → W p l e (headSpec (wx y_So_widen b_So_widen 2 none) { frames := 0, cells := 0, slots := 0, locals := 0 }).room s m ([.ref aSo, .int (iI v_outer)] : List Value).toArray below meth c H locs 0 0 (MX below (XQ G classes A (fun o w1 => ozp R9 (fun x9 => (KSo.Ok x9) ∧ o = .returned none ∧ w1 = [(aSo, .inr (3, [.ref aTp, .int (iI x9.at_), .int (iI x9.limit), .int (bI x9.failed)])), (aTp, .inl (cB, 2000, .inl x9.bytes))]) (fun _ => False))) ([.ref aSo, .int (iI v_outer)] : List Value).toArray s 0 0 A) (F0 m 16 ls []) := by
    intro y_1 hy_1 hf H_3 locs_3 hP_3 hD_3 hS_3 ls hl
    clear hS hD hP
    replace hf := (congrFun hK_2 y_1).symm.trans hf
    clear hK_2
    refine lv_aload_n hx hb d_So_widen_16 rfl (lv_at hl 0 rfl) ?_
    refine lv_iload_n hx hb d_So_widen_17 rfl (lv_at hl 1 rfl) ?_
    refine va_put (D := G) (ci := 3) (v := .int (iI v_outer)) (ty := .int) (C := R_So) (T := F_So) (N := 4) hx hb hts i_So t_So t_So_ok n_So hown hK hP_3 hD_3 hS_3 0 rfl rfl 2 (by decide) (hts _ m_50) (fun _ h9 => h9) rfl (by decide +kernel) rfl rfl (Nat.le_of_ble_eq_true rfl) d_So_widen_18 (fun H_4 locs_4 hP_4 hD_4 hS_4 => ?_)
    clear hS_3 hD_3 hP_3
    replace hP_4 : va_P G classes [(aSo, .inr (3, [.ref aTp, .int (iI y_1.at_), .int (iI v_outer), .int (bI y_1.failed)])), (aTp, .inl (cB, 2000, .inl y_1.bytes))] H_4 := hP_4
    replace hD_4 : va_D A [(aSo, .inr (3, [.ref aTp, .int (iI y_1.at_), .int (iI v_outer), .int (bI y_1.failed)])), (aTp, .inl (cB, 2000, .inl y_1.bytes))] := hD_4
    exact ex_W (fun _ h => ex_mq h) (W.vret hx hb hr (fun t ht hW => ⟨⟨_, ozr hf ⟨(KSo.Ok.mk hy_1.at_ hv_outer : KSo.Ok (KSo.mk y_1.at_ v_outer y_1.failed y_1.bytes)), rfl, rfl⟩, by rw [ht]; exact hP_4, hD_4⟩, hS_4.F ht⟩) hS_4.2.2 d_So_widen_21)
  clear hK_2
  refine lv_icmp_eq (tgt := 16) hx hb d_So_widen_8 (by decide) (fun c_3 => ?_) (fun c_3 => ?_)
  · have c_3 := ((zv_eq (iI_t hzSo.at_) (iI_t hzSo.limit))).mp c_3
    replace hf := ifp c_3 hf
    exact hJK_2 zSo hzSo hf _ _ hP hD hS _ (lv_sub hl [0, 1] rfl)
  · have c_3 := (fun q9 => c_3 (((zv_eq (iI_t hzSo.at_) (iI_t hzSo.limit))).mpr q9))
    replace hf := ifn c_3 hf
    refine lv_aload_n hx hb d_So_widen_11 rfl (lv_at hl 0 rfl) ?_
    refine lv_iconst (v := iI 1) hx hb d_So_widen_12 (by decide) ?_
    refine W.eq (g2 := F0 m 13 ls [.int (bI true), .ref aSo]) (by rfl) ?_
    refine va_put (D := G) (ci := 3) (v := .int (bI true)) (ty := .boolean) (C := R_So) (T := F_So) (N := 4) hx hb hts i_So t_So t_So_ok n_So hown hK hP hD hS 0 rfl rfl 3 (by decide) (hts _ m_51) (fun _ h9 => h9) rfl (by decide +kernel) (bI_nar _) (bI_fit _) (Nat.le_of_ble_eq_true rfl) d_So_widen_13 (fun H_5 locs_5 hP_5 hD_5 hS_5 => ?_)
    clear hS hD hP
    replace hP_5 : va_P G classes [(aSo, .inr (3, [.ref aTp, .int (iI zSo.at_), .int (iI zSo.limit), .int (bI true)])), (aTp, .inl (cB, 2000, .inl zSo.bytes))] H_5 := hP_5
    replace hD_5 : va_D A [(aSo, .inr (3, [.ref aTp, .int (iI zSo.at_), .int (iI zSo.limit), .int (bI true)])), (aTp, .inl (cB, 2000, .inl zSo.bytes))] := hD_5
    exact hJK_2 (KSo.mk zSo.at_ zSo.limit true zSo.bytes) (KSo.Ok.mk hzSo.at_ hzSo.limit : KSo.Ok (KSo.mk zSo.at_ zSo.limit true zSo.bytes)) hf _ _ hP_5 hD_5 hS_5 _ (lv_sub hl [0, 1] rfl)
