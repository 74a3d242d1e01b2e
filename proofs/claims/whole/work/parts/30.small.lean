def sFg (f : Nat → Int32) (a lm : Nat) (fl : Bool) : Bool := if sOct f a lm fl ≤ 1 then sFl a lm fl else true
def sTy (f : Nat → Int32) (a lm : Nat) (fl : Bool) : Bool := if sOct f a lm fl = 127 then sFl a lm fl else if sOct f a lm fl = 126 then sFl a lm fl else true
def sWd (a lm : Nat) (fl : Bool) : Bool := if a = lm then fl else true
abbrev b_So_flag : ByteArray := prog_10_method_8_code
def y_So_flag : MethodName := ⟨R_So, "flag", "()Z"⟩
abbrev b_So_valueType : ByteArray := prog_10_method_9_code
def y_So_valueType : MethodName := ⟨R_So, "valueType", "()I"⟩
abbrev b_So_left : ByteArray := prog_10_method_14_code
def y_So_left : MethodName := ⟨R_So, "left", "()I"⟩
abbrev b_So_skipRest : ByteArray := prog_10_method_15_code
def y_So_skipRest : MethodName := ⟨R_So, "skipRest", "()V"⟩
abbrev b_So_widen : ByteArray := prog_10_method_13_code
def y_So_widen : MethodName := ⟨R_So, "widen", "(I)V"⟩
abbrev b_Co_add : ByteArray := prog_5_method_3_code
def y_Co_add : MethodName := ⟨R_Co, "add", "(I)I"⟩
abbrev b_Co_addLabel : ByteArray := prog_5_method_4_code
def y_Co_addLabel : MethodName := ⟨R_Co, "addLabel", "(I)V"⟩
abbrev b_Wa_parameterCountOf : ByteArray := prog_12_method_3_code
def y_Wa_parameterCountOf : MethodName := ⟨R_Wa, "parameterCountOf", "(I)I"⟩
abbrev b_Wa_resultOf : ByteArray := prog_12_method_5_code
def y_Wa_resultOf : MethodName := ⟨R_Wa, "resultOf", "(I)I"⟩
theorem d_So_flag_0 : decode b_So_flag 0 = .ok (.aload_n 0, 1) := by decide +kernel
theorem d_So_flag_1 : decode b_So_flag 1 = .ok (.invokevirtual 26, 3) := by decide +kernel
theorem d_So_flag_4 : decode b_So_flag 4 = .ok (.istore_n 1, 1) := by decide +kernel
theorem d_So_flag_5 : decode b_So_flag 5 = .ok (.iload_n 1, 1) := by decide +kernel
theorem d_So_flag_6 : decode b_So_flag 6 = .ok (.iconst 1, 1) := by decide +kernel
theorem d_So_flag_7 : decode b_So_flag 7 = .ok (.if_icmp .le 8, 3) := by decide +kernel
theorem d_So_flag_10 : decode b_So_flag 10 = .ok (.aload_n 0, 1) := by decide +kernel
theorem d_So_flag_11 : decode b_So_flag 11 = .ok (.iconst 1, 1) := by decide +kernel
theorem d_So_flag_12 : decode b_So_flag 12 = .ok (.putfield 22, 3) := by decide +kernel
theorem d_So_flag_15 : decode b_So_flag 15 = .ok (.iload_n 1, 1) := by decide +kernel
theorem d_So_flag_16 : decode b_So_flag 16 = .ok (.iconst 1, 1) := by decide +kernel
theorem d_So_flag_17 : decode b_So_flag 17 = .ok (.if_icmp .ne 7, 3) := by decide +kernel
theorem d_So_flag_20 : decode b_So_flag 20 = .ok (.iconst 1, 1) := by decide +kernel
theorem d_So_flag_21 : decode b_So_flag 21 = .ok (.goto 4, 3) := by decide +kernel
theorem d_So_flag_24 : decode b_So_flag 24 = .ok (.iconst 0, 1) := by decide +kernel
theorem d_So_flag_25 : decode b_So_flag 25 = .ok (.ireturn, 1) := by decide +kernel
theorem d_So_valueType_0 : decode b_So_valueType 0 = .ok (.aload_n 0, 1) := by decide +kernel
theorem d_So_valueType_1 : decode b_So_valueType 1 = .ok (.invokevirtual 26, 3) := by decide +kernel
theorem d_So_valueType_4 : decode b_So_valueType 4 = .ok (.istore_n 1, 1) := by decide +kernel
theorem d_So_valueType_5 : decode b_So_valueType 5 = .ok (.iload_n 1, 1) := by decide +kernel
theorem d_So_valueType_6 : decode b_So_valueType 6 = .ok (.bipush 127, 2) := by decide +kernel
theorem d_So_valueType_8 : decode b_So_valueType 8 = .ok (.if_icmp .eq 14, 3) := by decide +kernel
theorem d_So_valueType_11 : decode b_So_valueType 11 = .ok (.iload_n 1, 1) := by decide +kernel
theorem d_So_valueType_12 : decode b_So_valueType 12 = .ok (.bipush 126, 2) := by decide +kernel
theorem d_So_valueType_14 : decode b_So_valueType 14 = .ok (.if_icmp .eq 8, 3) := by decide +kernel
theorem d_So_valueType_17 : decode b_So_valueType 17 = .ok (.aload_n 0, 1) := by decide +kernel
theorem d_So_valueType_18 : decode b_So_valueType 18 = .ok (.iconst 1, 1) := by decide +kernel
theorem d_So_valueType_19 : decode b_So_valueType 19 = .ok (.putfield 22, 3) := by decide +kernel
theorem d_So_valueType_22 : decode b_So_valueType 22 = .ok (.iload_n 1, 1) := by decide +kernel
theorem d_So_valueType_23 : decode b_So_valueType 23 = .ok (.ireturn, 1) := by decide +kernel
theorem d_So_left_0 : decode b_So_left 0 = .ok (.aload_n 0, 1) := by decide +kernel
theorem d_So_left_1 : decode b_So_left 1 = .ok (.getfield 19, 3) := by decide +kernel
theorem d_So_left_4 : decode b_So_left 4 = .ok (.aload_n 0, 1) := by decide +kernel
theorem d_So_left_5 : decode b_So_left 5 = .ok (.getfield 15, 3) := by decide +kernel
theorem d_So_left_8 : decode b_So_left 8 = .ok (.isub, 1) := by decide +kernel
theorem d_So_left_9 : decode b_So_left 9 = .ok (.ireturn, 1) := by decide +kernel
theorem d_So_skipRest_0 : decode b_So_skipRest 0 = .ok (.aload_n 0, 1) := by decide +kernel
theorem d_So_skipRest_1 : decode b_So_skipRest 1 = .ok (.aload_n 0, 1) := by decide +kernel
theorem d_So_skipRest_2 : decode b_So_skipRest 2 = .ok (.getfield 19, 3) := by decide +kernel
theorem d_So_skipRest_5 : decode b_So_skipRest 5 = .ok (.putfield 15, 3) := by decide +kernel
theorem d_So_skipRest_8 : decode b_So_skipRest 8 = .ok (.return_, 1) := by decide +kernel
theorem d_So_widen_0 : decode b_So_widen 0 = .ok (.aload_n 0, 1) := by decide +kernel
theorem d_So_widen_1 : decode b_So_widen 1 = .ok (.getfield 15, 3) := by decide +kernel
theorem d_So_widen_4 : decode b_So_widen 4 = .ok (.aload_n 0, 1) := by decide +kernel
theorem d_So_widen_5 : decode b_So_widen 5 = .ok (.getfield 19, 3) := by decide +kernel
theorem d_So_widen_8 : decode b_So_widen 8 = .ok (.if_icmp .eq 8, 3) := by decide +kernel
theorem d_So_widen_11 : decode b_So_widen 11 = .ok (.aload_n 0, 1) := by decide +kernel
theorem d_So_widen_12 : decode b_So_widen 12 = .ok (.iconst 1, 1) := by decide +kernel
theorem d_So_widen_13 : decode b_So_widen 13 = .ok (.putfield 22, 3) := by decide +kernel
theorem d_So_widen_16 : decode b_So_widen 16 = .ok (.aload_n 0, 1) := by decide +kernel
theorem d_So_widen_17 : decode b_So_widen 17 = .ok (.iload_n 1, 1) := by decide +kernel
theorem d_So_widen_18 : decode b_So_widen 18 = .ok (.putfield 19, 3) := by decide +kernel
theorem d_So_widen_21 : decode b_So_widen 21 = .ok (.return_, 1) := by decide +kernel
theorem d_Co_add_0 : decode b_Co_add 0 = .ok (.aload_n 0, 1) := by decide +kernel
theorem d_Co_add_1 : decode b_Co_add 1 = .ok (.getfield 40, 3) := by decide +kernel
theorem d_Co_add_4 : decode b_Co_add 4 = .ok (.istore_n 2, 1) := by decide +kernel
theorem d_Co_add_5 : decode b_Co_add 5 = .ok (.aload_n 0, 1) := by decide +kernel
theorem d_Co_add_6 : decode b_Co_add 6 = .ok (.getfield 9, 3) := by decide +kernel
theorem d_Co_add_9 : decode b_Co_add 9 = .ok (.iload_n 2, 1) := by decide +kernel
theorem d_Co_add_10 : decode b_Co_add 10 = .ok (.iload_n 1, 1) := by decide +kernel
theorem d_Co_add_11 : decode b_Co_add 11 = .ok (.iastore, 1) := by decide +kernel
theorem d_Co_add_12 : decode b_Co_add 12 = .ok (.aload_n 0, 1) := by decide +kernel
theorem d_Co_add_13 : decode b_Co_add 13 = .ok (.getfield 15, 3) := by decide +kernel
theorem d_Co_add_16 : decode b_Co_add 16 = .ok (.iload_n 2, 1) := by decide +kernel
theorem d_Co_add_17 : decode b_Co_add 17 = .ok (.lconst 0, 1) := by decide +kernel
theorem d_Co_add_18 : decode b_Co_add 18 = .ok (.lastore, 1) := by decide +kernel
theorem d_Co_add_19 : decode b_Co_add 19 = .ok (.aload_n 0, 1) := by decide +kernel
theorem d_Co_add_20 : decode b_Co_add 20 = .ok (.getfield 19, 3) := by decide +kernel
theorem d_Co_add_23 : decode b_Co_add 23 = .ok (.iload_n 2, 1) := by decide +kernel
theorem d_Co_add_24 : decode b_Co_add 24 = .ok (.bipush 64, 2) := by decide +kernel
theorem d_Co_add_26 : decode b_Co_add 26 = .ok (.iastore, 1) := by decide +kernel
theorem d_Co_add_27 : decode b_Co_add 27 = .ok (.aload_n 0, 1) := by decide +kernel
theorem d_Co_add_28 : decode b_Co_add 28 = .ok (.getfield 22, 3) := by decide +kernel
theorem d_Co_add_31 : decode b_Co_add 31 = .ok (.iload_n 2, 1) := by decide +kernel
theorem d_Co_add_32 : decode b_Co_add 32 = .ok (.iconst (-1), 1) := by decide +kernel
theorem d_Co_add_33 : decode b_Co_add 33 = .ok (.iastore, 1) := by decide +kernel
theorem d_Co_add_34 : decode b_Co_add 34 = .ok (.aload_n 0, 1) := by decide +kernel
theorem d_Co_add_35 : decode b_Co_add 35 = .ok (.getfield 25, 3) := by decide +kernel
theorem d_Co_add_38 : decode b_Co_add 38 = .ok (.iload_n 2, 1) := by decide +kernel
theorem d_Co_add_39 : decode b_Co_add 39 = .ok (.iconst (-1), 1) := by decide +kernel
theorem d_Co_add_40 : decode b_Co_add 40 = .ok (.iastore, 1) := by decide +kernel
theorem d_Co_add_41 : decode b_Co_add 41 = .ok (.aload_n 0, 1) := by decide +kernel
theorem d_Co_add_42 : decode b_Co_add 42 = .ok (.getfield 28, 3) := by decide +kernel
theorem d_Co_add_45 : decode b_Co_add 45 = .ok (.iload_n 2, 1) := by decide +kernel
theorem d_Co_add_46 : decode b_Co_add 46 = .ok (.iconst 0, 1) := by decide +kernel
theorem d_Co_add_47 : decode b_Co_add 47 = .ok (.iastore, 1) := by decide +kernel
theorem d_Co_add_48 : decode b_Co_add 48 = .ok (.aload_n 0, 1) := by decide +kernel
theorem d_Co_add_49 : decode b_Co_add 49 = .ok (.getfield 31, 3) := by decide +kernel
theorem d_Co_add_52 : decode b_Co_add 52 = .ok (.iload_n 2, 1) := by decide +kernel
theorem d_Co_add_53 : decode b_Co_add 53 = .ok (.iconst (-1), 1) := by decide +kernel
theorem d_Co_add_54 : decode b_Co_add 54 = .ok (.iastore, 1) := by decide +kernel
theorem d_Co_add_55 : decode b_Co_add 55 = .ok (.aload_n 0, 1) := by decide +kernel
theorem d_Co_add_56 : decode b_Co_add 56 = .ok (.dup, 1) := by decide +kernel
theorem d_Co_add_57 : decode b_Co_add 57 = .ok (.getfield 40, 3) := by decide +kernel
theorem d_Co_add_60 : decode b_Co_add 60 = .ok (.iconst 1, 1) := by decide +kernel
theorem d_Co_add_61 : decode b_Co_add 61 = .ok (.iadd, 1) := by decide +kernel
theorem d_Co_add_62 : decode b_Co_add 62 = .ok (.putfield 40, 3) := by decide +kernel
theorem d_Co_add_65 : decode b_Co_add 65 = .ok (.iload_n 2, 1) := by decide +kernel
theorem d_Co_add_66 : decode b_Co_add 66 = .ok (.ireturn, 1) := by decide +kernel
theorem d_Co_addLabel_0 : decode b_Co_addLabel 0 = .ok (.aload_n 0, 1) := by decide +kernel
theorem d_Co_addLabel_1 : decode b_Co_addLabel 1 = .ok (.getfield 34, 3) := by decide +kernel
theorem d_Co_addLabel_4 : decode b_Co_addLabel 4 = .ok (.aload_n 0, 1) := by decide +kernel
theorem d_Co_addLabel_5 : decode b_Co_addLabel 5 = .ok (.getfield 44, 3) := by decide +kernel
theorem d_Co_addLabel_8 : decode b_Co_addLabel 8 = .ok (.iload_n 1, 1) := by decide +kernel
theorem d_Co_addLabel_9 : decode b_Co_addLabel 9 = .ok (.iastore, 1) := by decide +kernel
theorem d_Co_addLabel_10 : decode b_Co_addLabel 10 = .ok (.aload_n 0, 1) := by decide +kernel
theorem d_Co_addLabel_11 : decode b_Co_addLabel 11 = .ok (.getfield 37, 3) := by decide +kernel
theorem d_Co_addLabel_14 : decode b_Co_addLabel 14 = .ok (.aload_n 0, 1) := by decide +kernel
theorem d_Co_addLabel_15 : decode b_Co_addLabel 15 = .ok (.getfield 44, 3) := by decide +kernel
theorem d_Co_addLabel_18 : decode b_Co_addLabel 18 = .ok (.iconst (-1), 1) := by decide +kernel
theorem d_Co_addLabel_19 : decode b_Co_addLabel 19 = .ok (.iastore, 1) := by decide +kernel
theorem d_Co_addLabel_20 : decode b_Co_addLabel 20 = .ok (.aload_n 0, 1) := by decide +kernel
theorem d_Co_addLabel_21 : decode b_Co_addLabel 21 = .ok (.dup, 1) := by decide +kernel
theorem d_Co_addLabel_22 : decode b_Co_addLabel 22 = .ok (.getfield 44, 3) := by decide +kernel
theorem d_Co_addLabel_25 : decode b_Co_addLabel 25 = .ok (.iconst 1, 1) := by decide +kernel
theorem d_Co_addLabel_26 : decode b_Co_addLabel 26 = .ok (.iadd, 1) := by decide +kernel
theorem d_Co_addLabel_27 : decode b_Co_addLabel 27 = .ok (.putfield 44, 3) := by decide +kernel
theorem d_Co_addLabel_30 : decode b_Co_addLabel 30 = .ok (.return_, 1) := by decide +kernel
theorem d_Wa_parameterCountOf_0 : decode b_Wa_parameterCountOf 0 = .ok (.aload_n 0, 1) := by decide +kernel
theorem d_Wa_parameterCountOf_1 : decode b_Wa_parameterCountOf 1 = .ok (.getfield 11, 3) := by decide +kernel
theorem d_Wa_parameterCountOf_4 : decode b_Wa_parameterCountOf 4 = .ok (.aload_n 0, 1) := by decide +kernel
theorem d_Wa_parameterCountOf_5 : decode b_Wa_parameterCountOf 5 = .ok (.getfield 21, 3) := by decide +kernel
theorem d_Wa_parameterCountOf_8 : decode b_Wa_parameterCountOf 8 = .ok (.iload_n 1, 1) := by decide +kernel
theorem d_Wa_parameterCountOf_9 : decode b_Wa_parameterCountOf 9 = .ok (.iaload, 1) := by decide +kernel
theorem d_Wa_parameterCountOf_10 : decode b_Wa_parameterCountOf 10 = .ok (.iaload, 1) := by decide +kernel
theorem d_Wa_parameterCountOf_11 : decode b_Wa_parameterCountOf 11 = .ok (.ireturn, 1) := by decide +kernel
theorem d_Wa_resultOf_0 : decode b_Wa_resultOf 0 = .ok (.aload_n 0, 1) := by decide +kernel
theorem d_Wa_resultOf_1 : decode b_Wa_resultOf 1 = .ok (.getfield 18, 3) := by decide +kernel
theorem d_Wa_resultOf_4 : decode b_Wa_resultOf 4 = .ok (.aload_n 0, 1) := by decide +kernel
theorem d_Wa_resultOf_5 : decode b_Wa_resultOf 5 = .ok (.getfield 21, 3) := by decide +kernel
theorem d_Wa_resultOf_8 : decode b_Wa_resultOf 8 = .ok (.iload_n 1, 1) := by decide +kernel
theorem d_Wa_resultOf_9 : decode b_Wa_resultOf 9 = .ok (.iaload, 1) := by decide +kernel
theorem d_Wa_resultOf_10 : decode b_Wa_resultOf 10 = .ok (.iaload, 1) := by decide +kernel
theorem d_Wa_resultOf_11 : decode b_Wa_resultOf 11 = .ok (.ireturn, 1) := by decide +kernel
set_option maxHeartbeats 8000000 in
set_option maxRecDepth 100000 in
theorem c_So_flag (l : Launch) (htr : l.stackTraces = false) (G : va_G) (cB cI cJ cZ : ClassId) (so : Nat) (sb : Nat) (f : Nat → Int32) (a : Nat) (lm : Nat) (fl : Bool) (ha : a ≤ 2000) (hl9 : lm ≤ 2000) (sz : Nat) : MetX l y_So_flag (wx y_So_flag b_So_flag 2 (some .boolean)) { frames := 1, cells := 0, slots := 0, locals := 21 } (XP G classes (xtys cB cI cJ cZ) xE [.ref so] [(so, .inr (3, [.ref sb, .int (nI a), .int (nI lm), .int (bI fl)])), (sb, .inl (cB, 2000, .inl f))] sz) (XQ G classes (va_A [(so, .inr (3, [.ref sb, .int (nI a), .int (nI lm), .int (bI fl)])), (sb, .inl (cB, 2000, .inl f))] sz) (fun o w1 => o = .returned (some (.int (bI (decide (sOct f a lm fl = 1))))) ∧ w1 = [(so, .inr (3, [.ref sb, .int (nI (sAt a lm fl)), .int (nI lm), .int (bI (sFg f a lm fl))])), (sb, .inl (cB, 2000, .inl f))])) 0 0 (va_A [(so, .inr (3, [.ref sb, .int (nI a), .int (nI lm), .int (bI fl)])), (sb, .inl (cB, 2000, .inl f))] sz) := by
  refine ex_ofW (cc := b_So_flag) (maxL := 2) (ret := (some .boolean)) (by decide) rfl ?_
  intro p e s m args below meth c s₁ B hml hno hv
  obtain ⟨rfl, hsz, hP, hK, hD0, hE⟩ := hv
  have hx := B.exec
  have hb := B.bytes
  have hr := B.returns
  have hts : ∀ w ∈ lw_good, w.before _ s = true := fun w h => atoms_spec (ws := wx y_So_flag b_So_flag 2 (some .boolean)) B.pre w (List.mem_cons_of_mem _ h)
  have hown : s.vm.findClass R_So = some m.cls := findClass_of_methodNamed B.named
  have hlocks := B.notSynchronized
  have htr9 : e.platform.stackTraces = false := by rw [B.admits.platform]; exact htr
  subst hsz
  have hNS := xx_nostat hP
  have hD := hD0.self (sz := s.heap.size)
  generalize hAe : va_A [(so, .inr (3, [.ref sb, .int (nI a), .int (nI lm), .int (bI fl)])), (sb, .inl (cB, 2000, .inl f))] s.heap.size = A at hD hE hNS ⊢
  have hA : ∀ q : Nat, s.heap.size ≤ q → A q := fun q h => by rw [← hAe]; exact Or.inr h
  have hS : va_S A s.heap s.heap [] := va_S.rf
  have hl := lv_entry ([.ref so]) (n := 2) (Nat.le_of_ble_eq_true rfl)
  rw [lg_entry_eq]
  generalize (lg_sl ([.ref so]) ++ List.replicate (2 - (lg_sl ([.ref so])).length) Slot.unset).toArray = ls at hl ⊢
  have hl : lv_has ls 2 [(0, .ref so)] := hl
  refine lv_aload_n hx hb d_So_flag_0 rfl (lv_at hl 0 rfl) ?_
  refine xx_callV (wc := [(so, .inr (3, [.ref sb, .int (nI a), .int (nI lm), .int (bI fl)])), (sb, .inl (cB, 2000, .inl f))]) (wr := []) (As := []) (rest := []) ⟨hx, hb, hml, hown, hts⟩ xE_st hK hE hA (c_So_octet l htr G cB cI cJ cZ so sb f a lm fl (by omega) (by omega) _) (xw_V 0 hts m_600 m_601 m_602 m_3 m_603 (by decide +kernel) ⟨(Nat.le_of_ble_eq_true rfl), (Nat.le_of_ble_eq_true rfl)⟩) hP hD hS [0, 1] [] rfl rfl (by decide) (by decide) (by decide) 0 3 rfl rfl rfl rfl hl.1 rfl (Nat.le_of_ble_eq_true rfl) d_So_flag_1 ⟨(Nat.le_of_ble_eq_true rfl), (Nat.le_of_ble_eq_true rfl)⟩ (fun v9 w9 H locs hp hP hD hS => ?_) (fun x9 w9 H9 l9 hp _ _ _ => absurd hp (by rintro ⟨ho, -⟩; cases ho))
  obtain ⟨ho, rfl⟩ := hp
  cases ho
  have hP : va_P G classes [(so, .inr (3, [.ref sb, .int (nI (sAt a lm fl)), .int (nI lm), .int (bI (sFl a lm fl))])), (sb, .inl (cB, 2000, .inl f))] H := hP
  have hD : va_D A [(so, .inr (3, [.ref sb, .int (nI (sAt a lm fl)), .int (nI lm), .int (bI (sFl a lm fl))])), (sb, .inl (cB, 2000, .inl f))] := hD
  refine lv_istore_n (lv' := [(1, .int (sOct f a lm fl)), (0, .ref so)]) hx hb d_So_flag_4 rfl hl (by decide) rfl (fun ls hl => ?_)
  refine lv_iload_n hx hb d_So_flag_5 rfl (lv_at hl 0 rfl) ?_
  refine lv_iconst (v := 1) hx hb d_So_flag_6 (by decide) ?_
  refine lv_icmp_le (tgt := 15) hx hb d_So_flag_7 (by decide) (fun c_1 => ?_) (fun c_1 => ?_)
  · refine lv_iload_n hx hb d_So_flag_15 rfl (lv_at hl 0 rfl) ?_
    refine lv_iconst (v := 1) hx hb d_So_flag_16 (by decide) ?_
    refine lv_icmp_ne (tgt := 24) hx hb d_So_flag_17 (by decide) (fun c_2 => ?_) (fun c_2 => ?_)
    · refine lv_iconst (v := 0) hx hb d_So_flag_24 (by decide) ?_
      have e9 : ([(so, .inr (3, [.ref sb, .int (nI (sAt a lm fl)), .int (nI lm), .int (bI (sFg f a lm fl))])), (sb, .inl (cB, 2000, .inl f))] : va_W) = [(so, .inr (3, [.ref sb, .int (nI (sAt a lm fl)), .int (nI lm), .int (bI (sFl a lm fl))])), (sb, .inl (cB, 2000, .inl f))] := by rw [show (bI (sFg f a lm fl) : Int32) = (bI (sFl a lm fl)) from by first | (simp [bI, sFg, c_1, c_2]; done) | (exfalso; simp_all; done)]
      rw [← e9] at hP hD
      exact ex_W (fun _ h => ex_mq h) (W.zret (v := 0) hx hb hr rfl (fun t ht hW => ⟨⟨_, ⟨congrArg (fun z => Outcome.returned (some (Value.int z))) (by first | (simp [bI, sFg, c_1, c_2]; done) | (exfalso; simp_all; done)), rfl⟩, by rw [ht]; exact hP, hD⟩, hS.F ht⟩) hS.2.2 d_So_flag_25)
    · refine lv_iconst (v := 1) hx hb d_So_flag_20 (by decide) ?_
      refine lv_goto (tgt := 25) hx hb d_So_flag_21 (by decide) ?_
      have e9 : ([(so, .inr (3, [.ref sb, .int (nI (sAt a lm fl)), .int (nI lm), .int (bI (sFg f a lm fl))])), (sb, .inl (cB, 2000, .inl f))] : va_W) = [(so, .inr (3, [.ref sb, .int (nI (sAt a lm fl)), .int (nI lm), .int (bI (sFl a lm fl))])), (sb, .inl (cB, 2000, .inl f))] := by rw [show (bI (sFg f a lm fl) : Int32) = (bI (sFl a lm fl)) from by first | (simp [bI, sFg, c_1, c_2]; done) | (exfalso; simp_all; done)]
      rw [← e9] at hP hD
      exact ex_W (fun _ h => ex_mq h) (W.zret (v := 1) hx hb hr rfl (fun t ht hW => ⟨⟨_, ⟨congrArg (fun z => Outcome.returned (some (Value.int z))) (by first | (simp [bI, sFg, c_1, c_2]; done) | (exfalso; simp_all; done)), rfl⟩, by rw [ht]; exact hP, hD⟩, hS.F ht⟩) hS.2.2 d_So_flag_25)
  · refine lv_aload_n hx hb d_So_flag_10 rfl (lv_at hl 1 rfl) ?_
    refine lv_iconst (v := 1) hx hb d_So_flag_11 (by decide) ?_
    refine va_put (D := G) (ci := 3) (v := .int 1) (ty := .boolean) (C := R_So) (T := F_So) (N := 4) hx hb hts i_So t_So t_So_ok n_So hown hK hP hD hS 0 rfl rfl 3 (by decide) (hts _ m_51) (fun _ h9 => h9) rfl (by decide +kernel) rfl rfl (Nat.le_of_ble_eq_true rfl) d_So_flag_12 (fun H locs hP hD hS => ?_)
    have hP : va_P G classes [(so, .inr (3, [.ref sb, .int (nI (sAt a lm fl)), .int (nI lm), .int 1])), (sb, .inl (cB, 2000, .inl f))] H := hP
    have hD : va_D A [(so, .inr (3, [.ref sb, .int (nI (sAt a lm fl)), .int (nI lm), .int 1])), (sb, .inl (cB, 2000, .inl f))] := hD
    refine lv_iload_n hx hb d_So_flag_15 rfl (lv_at hl 0 rfl) ?_
    refine lv_iconst (v := 1) hx hb d_So_flag_16 (by decide) ?_
    refine lv_icmp_ne (tgt := 24) hx hb d_So_flag_17 (by decide) (fun c_3 => ?_) (fun c_3 => ?_)
    · refine lv_iconst (v := 0) hx hb d_So_flag_24 (by decide) ?_
      have e9 : ([(so, .inr (3, [.ref sb, .int (nI (sAt a lm fl)), .int (nI lm), .int (bI (sFg f a lm fl))])), (sb, .inl (cB, 2000, .inl f))] : va_W) = [(so, .inr (3, [.ref sb, .int (nI (sAt a lm fl)), .int (nI lm), .int 1])), (sb, .inl (cB, 2000, .inl f))] := by rw [show (bI (sFg f a lm fl) : Int32) = 1 from by first | (simp [bI, sFg, c_1, c_3]; done) | (exfalso; simp_all; done)]
      rw [← e9] at hP hD
      exact ex_W (fun _ h => ex_mq h) (W.zret (v := 0) hx hb hr rfl (fun t ht hW => ⟨⟨_, ⟨congrArg (fun z => Outcome.returned (some (Value.int z))) (by first | (simp [bI, sFg, c_1, c_3]; done) | (exfalso; simp_all; done)), rfl⟩, by rw [ht]; exact hP, hD⟩, hS.F ht⟩) hS.2.2 d_So_flag_25)
    · refine lv_iconst (v := 1) hx hb d_So_flag_20 (by decide) ?_
      refine lv_goto (tgt := 25) hx hb d_So_flag_21 (by decide) ?_
      have e9 : ([(so, .inr (3, [.ref sb, .int (nI (sAt a lm fl)), .int (nI lm), .int (bI (sFg f a lm fl))])), (sb, .inl (cB, 2000, .inl f))] : va_W) = [(so, .inr (3, [.ref sb, .int (nI (sAt a lm fl)), .int (nI lm), .int 1])), (sb, .inl (cB, 2000, .inl f))] := by rw [show (bI (sFg f a lm fl) : Int32) = 1 from by first | (simp [bI, sFg, c_1, c_3]; done) | (exfalso; simp_all; done)]
      rw [← e9] at hP hD
      exact ex_W (fun _ h => ex_mq h) (W.zret (v := 1) hx hb hr rfl (fun t ht hW => ⟨⟨_, ⟨congrArg (fun z => Outcome.returned (some (Value.int z))) (by first | (simp [bI, sFg, c_1, c_3]; done) | (exfalso; simp_all; done)), rfl⟩, by rw [ht]; exact hP, hD⟩, hS.F ht⟩) hS.2.2 d_So_flag_25)
set_option maxHeartbeats 8000000 in
set_option maxRecDepth 100000 in
theorem c_So_valueType (l : Launch) (htr : l.stackTraces = false) (G : va_G) (cB cI cJ cZ : ClassId) (so : Nat) (sb : Nat) (f : Nat → Int32) (a : Nat) (lm : Nat) (fl : Bool) (ha : a ≤ 2000) (hl9 : lm ≤ 2000) (sz : Nat) : MetX l y_So_valueType (wx y_So_valueType b_So_valueType 2 (some .int)) { frames := 1, cells := 0, slots := 0, locals := 21 } (XP G classes (xtys cB cI cJ cZ) xE [.ref so] [(so, .inr (3, [.ref sb, .int (nI a), .int (nI lm), .int (bI fl)])), (sb, .inl (cB, 2000, .inl f))] sz) (XQ G classes (va_A [(so, .inr (3, [.ref sb, .int (nI a), .int (nI lm), .int (bI fl)])), (sb, .inl (cB, 2000, .inl f))] sz) (fun o w1 => o = .returned (some (.int (sOct f a lm fl))) ∧ w1 = [(so, .inr (3, [.ref sb, .int (nI (sAt a lm fl)), .int (nI lm), .int (bI (sTy f a lm fl))])), (sb, .inl (cB, 2000, .inl f))])) 0 0 (va_A [(so, .inr (3, [.ref sb, .int (nI a), .int (nI lm), .int (bI fl)])), (sb, .inl (cB, 2000, .inl f))] sz) := by
  refine ex_ofW (cc := b_So_valueType) (maxL := 2) (ret := (some .int)) (by decide) rfl ?_
  intro p e s m args below meth c s₁ B hml hno hv
  obtain ⟨rfl, hsz, hP, hK, hD0, hE⟩ := hv
  have hx := B.exec
  have hb := B.bytes
  have hr := B.returns
  have hts : ∀ w ∈ lw_good, w.before _ s = true := fun w h => atoms_spec (ws := wx y_So_valueType b_So_valueType 2 (some .int)) B.pre w (List.mem_cons_of_mem _ h)
  have hown : s.vm.findClass R_So = some m.cls := findClass_of_methodNamed B.named
  have hlocks := B.notSynchronized
  have htr9 : e.platform.stackTraces = false := by rw [B.admits.platform]; exact htr
  subst hsz
  have hNS := xx_nostat hP
  have hD := hD0.self (sz := s.heap.size)
  generalize hAe : va_A [(so, .inr (3, [.ref sb, .int (nI a), .int (nI lm), .int (bI fl)])), (sb, .inl (cB, 2000, .inl f))] s.heap.size = A at hD hE hNS ⊢
  have hA : ∀ q : Nat, s.heap.size ≤ q → A q := fun q h => by rw [← hAe]; exact Or.inr h
  have hS : va_S A s.heap s.heap [] := va_S.rf
  have hl := lv_entry ([.ref so]) (n := 2) (Nat.le_of_ble_eq_true rfl)
  rw [lg_entry_eq]
  generalize (lg_sl ([.ref so]) ++ List.replicate (2 - (lg_sl ([.ref so])).length) Slot.unset).toArray = ls at hl ⊢
  have hl : lv_has ls 2 [(0, .ref so)] := hl
  refine lv_aload_n hx hb d_So_valueType_0 rfl (lv_at hl 0 rfl) ?_
  refine xx_callV (wc := [(so, .inr (3, [.ref sb, .int (nI a), .int (nI lm), .int (bI fl)])), (sb, .inl (cB, 2000, .inl f))]) (wr := []) (As := []) (rest := []) ⟨hx, hb, hml, hown, hts⟩ xE_st hK hE hA (c_So_octet l htr G cB cI cJ cZ so sb f a lm fl (by omega) (by omega) _) (xw_V 0 hts m_600 m_601 m_602 m_3 m_603 (by decide +kernel) ⟨(Nat.le_of_ble_eq_true rfl), (Nat.le_of_ble_eq_true rfl)⟩) hP hD hS [0, 1] [] rfl rfl (by decide) (by decide) (by decide) 0 3 rfl rfl rfl rfl hl.1 rfl (Nat.le_of_ble_eq_true rfl) d_So_valueType_1 ⟨(Nat.le_of_ble_eq_true rfl), (Nat.le_of_ble_eq_true rfl)⟩ (fun v9 w9 H locs hp hP hD hS => ?_) (fun x9 w9 H9 l9 hp _ _ _ => absurd hp (by rintro ⟨ho, -⟩; cases ho))
  obtain ⟨ho, rfl⟩ := hp
  cases ho
  have hP : va_P G classes [(so, .inr (3, [.ref sb, .int (nI (sAt a lm fl)), .int (nI lm), .int (bI (sFl a lm fl))])), (sb, .inl (cB, 2000, .inl f))] H := hP
  have hD : va_D A [(so, .inr (3, [.ref sb, .int (nI (sAt a lm fl)), .int (nI lm), .int (bI (sFl a lm fl))])), (sb, .inl (cB, 2000, .inl f))] := hD
  refine lv_istore_n (lv' := [(1, .int (sOct f a lm fl)), (0, .ref so)]) hx hb d_So_valueType_4 rfl hl (by decide) rfl (fun ls hl => ?_)
  refine lv_iload_n hx hb d_So_valueType_5 rfl (lv_at hl 0 rfl) ?_
  refine lv_bipush (v := 127) hx hb d_So_valueType_6 (by decide) ?_
  refine lv_icmp_eq (tgt := 22) hx hb d_So_valueType_8 (by decide) (fun c_1 => ?_) (fun c_1 => ?_)
  · refine lv_iload_n hx hb d_So_valueType_22 rfl (lv_at hl 0 rfl) ?_
    have e9 : ([(so, .inr (3, [.ref sb, .int (nI (sAt a lm fl)), .int (nI lm), .int (bI (sTy f a lm fl))])), (sb, .inl (cB, 2000, .inl f))] : va_W) = [(so, .inr (3, [.ref sb, .int (nI (sAt a lm fl)), .int (nI lm), .int (bI (sFl a lm fl))])), (sb, .inl (cB, 2000, .inl f))] := by rw [show (bI (sTy f a lm fl) : Int32) = (bI (sFl a lm fl)) from by first | (simp [bI, sTy, c_1]; done) | (exfalso; simp_all; done)]
    rw [← e9] at hP hD
    exact ex_W (fun _ h => ex_mq h) (W.iret (v := sOct f a lm fl) hx hb hr (fun t ht hW => ⟨⟨_, ⟨rfl, rfl⟩, by rw [ht]; exact hP, hD⟩, hS.F ht⟩) hS.2.2 d_So_valueType_23)
  · refine lv_iload_n hx hb d_So_valueType_11 rfl (lv_at hl 0 rfl) ?_
    refine lv_bipush (v := 126) hx hb d_So_valueType_12 (by decide) ?_
    refine lv_icmp_eq (tgt := 22) hx hb d_So_valueType_14 (by decide) (fun c_2 => ?_) (fun c_2 => ?_)
    · refine lv_iload_n hx hb d_So_valueType_22 rfl (lv_at hl 0 rfl) ?_
      have e9 : ([(so, .inr (3, [.ref sb, .int (nI (sAt a lm fl)), .int (nI lm), .int (bI (sTy f a lm fl))])), (sb, .inl (cB, 2000, .inl f))] : va_W) = [(so, .inr (3, [.ref sb, .int (nI (sAt a lm fl)), .int (nI lm), .int (bI (sFl a lm fl))])), (sb, .inl (cB, 2000, .inl f))] := by rw [show (bI (sTy f a lm fl) : Int32) = (bI (sFl a lm fl)) from by first | (simp [bI, sTy, c_1, c_2]; done) | (exfalso; simp_all; done)]
      rw [← e9] at hP hD
      exact ex_W (fun _ h => ex_mq h) (W.iret (v := sOct f a lm fl) hx hb hr (fun t ht hW => ⟨⟨_, ⟨rfl, rfl⟩, by rw [ht]; exact hP, hD⟩, hS.F ht⟩) hS.2.2 d_So_valueType_23)
    · refine lv_aload_n hx hb d_So_valueType_17 rfl (lv_at hl 1 rfl) ?_
      refine lv_iconst (v := 1) hx hb d_So_valueType_18 (by decide) ?_
      refine va_put (D := G) (ci := 3) (v := .int 1) (ty := .boolean) (C := R_So) (T := F_So) (N := 4) hx hb hts i_So t_So t_So_ok n_So hown hK hP hD hS 0 rfl rfl 3 (by decide) (hts _ m_51) (fun _ h9 => h9) rfl (by decide +kernel) rfl rfl (Nat.le_of_ble_eq_true rfl) d_So_valueType_19 (fun H locs hP hD hS => ?_)
      have hP : va_P G classes [(so, .inr (3, [.ref sb, .int (nI (sAt a lm fl)), .int (nI lm), .int 1])), (sb, .inl (cB, 2000, .inl f))] H := hP
      have hD : va_D A [(so, .inr (3, [.ref sb, .int (nI (sAt a lm fl)), .int (nI lm), .int 1])), (sb, .inl (cB, 2000, .inl f))] := hD
      refine lv_iload_n hx hb d_So_valueType_22 rfl (lv_at hl 0 rfl) ?_
      have e9 : ([(so, .inr (3, [.ref sb, .int (nI (sAt a lm fl)), .int (nI lm), .int (bI (sTy f a lm fl))])), (sb, .inl (cB, 2000, .inl f))] : va_W) = [(so, .inr (3, [.ref sb, .int (nI (sAt a lm fl)), .int (nI lm), .int 1])), (sb, .inl (cB, 2000, .inl f))] := by rw [show (bI (sTy f a lm fl) : Int32) = 1 from by first | (simp [bI, sTy, c_1, c_2]; done) | (exfalso; simp_all; done)]
      rw [← e9] at hP hD
      exact ex_W (fun _ h => ex_mq h) (W.iret (v := sOct f a lm fl) hx hb hr (fun t ht hW => ⟨⟨_, ⟨rfl, rfl⟩, by rw [ht]; exact hP, hD⟩, hS.F ht⟩) hS.2.2 d_So_valueType_23)
set_option maxHeartbeats 8000000 in
set_option maxRecDepth 100000 in
theorem c_So_left (l : Launch) (htr : l.stackTraces = false) (G : va_G) (cB cI cJ cZ : ClassId) (so : Nat) (sb : Nat) (a : Nat) (lm : Nat) (fl : Bool) (ha : a ≤ 2000) (hl9 : lm ≤ 2000) (sz : Nat) : MetX l y_So_left (wx y_So_left b_So_left 1 (some .int)) { frames := 0, cells := 0, slots := 0, locals := 0 } (XP G classes (xtys cB cI cJ cZ) xE [.ref so] [(so, .inr (3, [.ref sb, .int (nI a), .int (nI lm), .int (bI fl)]))] sz) (XQ G classes (va_A [(so, .inr (3, [.ref sb, .int (nI a), .int (nI lm), .int (bI fl)]))] sz) (fun o w1 => o = .returned (some (.int ((nI lm) - (nI a)))) ∧ w1 = [(so, .inr (3, [.ref sb, .int (nI a), .int (nI lm), .int (bI fl)]))])) 0 0 (va_A [(so, .inr (3, [.ref sb, .int (nI a), .int (nI lm), .int (bI fl)]))] sz) := by
  refine ex_ofW (cc := b_So_left) (maxL := 1) (ret := (some .int)) (by decide) rfl ?_
  intro p e s m args below meth c s₁ B hml hno hv
  obtain ⟨rfl, hsz, hP, hK, hD0, hE⟩ := hv
  have hx := B.exec
  have hb := B.bytes
  have hr := B.returns
  have hts : ∀ w ∈ lw_good, w.before _ s = true := fun w h => atoms_spec (ws := wx y_So_left b_So_left 1 (some .int)) B.pre w (List.mem_cons_of_mem _ h)
  have hown : s.vm.findClass R_So = some m.cls := findClass_of_methodNamed B.named
  have hlocks := B.notSynchronized
  have htr9 : e.platform.stackTraces = false := by rw [B.admits.platform]; exact htr
  subst hsz
  have hNS := xx_nostat hP
  have hD := hD0.self (sz := s.heap.size)
  generalize hAe : va_A [(so, .inr (3, [.ref sb, .int (nI a), .int (nI lm), .int (bI fl)]))] s.heap.size = A at hD hE hNS ⊢
  have hA : ∀ q : Nat, s.heap.size ≤ q → A q := fun q h => by rw [← hAe]; exact Or.inr h
  have hS : va_S A s.heap s.heap [] := va_S.rf
  have hl := lv_entry ([.ref so]) (n := 1) (Nat.le_of_ble_eq_true rfl)
  rw [lg_entry_eq]
  generalize (lg_sl ([.ref so]) ++ List.replicate (1 - (lg_sl ([.ref so])).length) Slot.unset).toArray = ls at hl ⊢
  have hl : lv_has ls 1 [(0, .ref so)] := hl
  refine lv_aload_n hx hb d_So_left_0 rfl (lv_at hl 0 rfl) ?_
  refine va_get (D := G) (ci := 3) (v := .int (nI lm)) (C := R_So) (T := F_So) (N := 4) hx hb hts i_So hown hK hP 0 rfl rfl 2 (by decide) (hts _ m_50) (fun _ h9 => h9) rfl d_So_left_1 ?_
  refine lv_aload_n hx hb d_So_left_4 rfl (lv_at hl 0 rfl) ?_
  refine va_get (D := G) (ci := 3) (v := .int (nI a)) (C := R_So) (T := F_So) (N := 4) hx hb hts i_So hown hK hP 0 rfl rfl 1 (by decide) (hts _ m_49) (fun _ h9 => h9) rfl d_So_left_5 ?_
  refine lv_isub hx hb d_So_left_8 ?_
  exact ex_W (fun _ h => ex_mq h) (W.iret (v := (nI lm) - (nI a)) hx hb hr (fun t ht hW => ⟨⟨_, ⟨rfl, rfl⟩, by rw [ht]; exact hP, hD⟩, hS.F ht⟩) hS.2.2 d_So_left_9)
set_option maxHeartbeats 8000000 in
set_option maxRecDepth 100000 in
theorem c_So_skipRest (l : Launch) (htr : l.stackTraces = false) (G : va_G) (cB cI cJ cZ : ClassId) (so : Nat) (sb : Nat) (a : Nat) (lm : Nat) (fl : Bool) (ha : a ≤ 2000) (hl9 : lm ≤ 2000) (sz : Nat) : MetX l y_So_skipRest (wx y_So_skipRest b_So_skipRest 1 none) { frames := 0, cells := 0, slots := 0, locals := 0 } (XP G classes (xtys cB cI cJ cZ) xE [.ref so] [(so, .inr (3, [.ref sb, .int (nI a), .int (nI lm), .int (bI fl)]))] sz) (XQ G classes (va_A [(so, .inr (3, [.ref sb, .int (nI a), .int (nI lm), .int (bI fl)]))] sz) (fun o w1 => o = .returned none ∧ w1 = [(so, .inr (3, [.ref sb, .int (nI lm), .int (nI lm), .int (bI fl)]))])) 0 0 (va_A [(so, .inr (3, [.ref sb, .int (nI a), .int (nI lm), .int (bI fl)]))] sz) := by
  refine ex_ofW (cc := b_So_skipRest) (maxL := 1) (ret := none) (by decide) rfl ?_
  intro p e s m args below meth c s₁ B hml hno hv
  obtain ⟨rfl, hsz, hP, hK, hD0, hE⟩ := hv
  have hx := B.exec
  have hb := B.bytes
  have hr := B.returns
  have hts : ∀ w ∈ lw_good, w.before _ s = true := fun w h => atoms_spec (ws := wx y_So_skipRest b_So_skipRest 1 none) B.pre w (List.mem_cons_of_mem _ h)
  have hown : s.vm.findClass R_So = some m.cls := findClass_of_methodNamed B.named
  have hlocks := B.notSynchronized
  have htr9 : e.platform.stackTraces = false := by rw [B.admits.platform]; exact htr
  subst hsz
  have hNS := xx_nostat hP
  have hD := hD0.self (sz := s.heap.size)
  generalize hAe : va_A [(so, .inr (3, [.ref sb, .int (nI a), .int (nI lm), .int (bI fl)]))] s.heap.size = A at hD hE hNS ⊢
  have hA : ∀ q : Nat, s.heap.size ≤ q → A q := fun q h => by rw [← hAe]; exact Or.inr h
  have hS : va_S A s.heap s.heap [] := va_S.rf
  have hl := lv_entry ([.ref so]) (n := 1) (Nat.le_of_ble_eq_true rfl)
  rw [lg_entry_eq]
  generalize (lg_sl ([.ref so]) ++ List.replicate (1 - (lg_sl ([.ref so])).length) Slot.unset).toArray = ls at hl ⊢
  have hl : lv_has ls 1 [(0, .ref so)] := hl
  refine lv_aload_n hx hb d_So_skipRest_0 rfl (lv_at hl 0 rfl) ?_
  refine lv_aload_n hx hb d_So_skipRest_1 rfl (lv_at hl 0 rfl) ?_
  refine va_get (D := G) (ci := 3) (v := .int (nI lm)) (C := R_So) (T := F_So) (N := 4) hx hb hts i_So hown hK hP 0 rfl rfl 2 (by decide) (hts _ m_50) (fun _ h9 => h9) rfl d_So_skipRest_2 ?_
  refine va_put (D := G) (ci := 3) (v := .int (nI lm)) (ty := .int) (C := R_So) (T := F_So) (N := 4) hx hb hts i_So t_So t_So_ok n_So hown hK hP hD hS 0 rfl rfl 1 (by decide) (hts _ m_49) (fun _ h9 => h9) rfl (by decide +kernel) rfl rfl (Nat.le_of_ble_eq_true rfl) d_So_skipRest_5 (fun H locs hP hD hS => ?_)
  have hP : va_P G classes [(so, .inr (3, [.ref sb, .int (nI lm), .int (nI lm), .int (bI fl)]))] H := hP
  have hD : va_D A [(so, .inr (3, [.ref sb, .int (nI lm), .int (nI lm), .int (bI fl)]))] := hD
  exact ex_W (fun _ h => ex_mq h) (W.vret hx hb hr (fun t ht hW => ⟨⟨_, ⟨rfl, rfl⟩, by rw [ht]; exact hP, hD⟩, hS.F ht⟩) hS.2.2 d_So_skipRest_8)
set_option maxHeartbeats 8000000 in
set_option maxRecDepth 100000 in
theorem c_So_widen (l : Launch) (htr : l.stackTraces = false) (G : va_G) (cB cI cJ cZ : ClassId) (so : Nat) (sb : Nat) (a : Nat) (lm : Nat) (fl : Bool) (ha : a ≤ 2000) (hl9 : lm ≤ 2000) (ou : Nat) (sz : Nat) : MetX l y_So_widen (wx y_So_widen b_So_widen 2 none) { frames := 0, cells := 0, slots := 0, locals := 0 } (XP G classes (xtys cB cI cJ cZ) xE [.ref so, .int (nI ou)] [(so, .inr (3, [.ref sb, .int (nI a), .int (nI lm), .int (bI fl)]))] sz) (XQ G classes (va_A [(so, .inr (3, [.ref sb, .int (nI a), .int (nI lm), .int (bI fl)]))] sz) (fun o w1 => o = .returned none ∧ w1 = [(so, .inr (3, [.ref sb, .int (nI a), .int (nI ou), .int (bI (sWd a lm fl))]))])) 0 0 (va_A [(so, .inr (3, [.ref sb, .int (nI a), .int (nI lm), .int (bI fl)]))] sz) := by
  refine ex_ofW (cc := b_So_widen) (maxL := 2) (ret := none) (by decide) rfl ?_
  intro p e s m args below meth c s₁ B hml hno hv
  obtain ⟨rfl, hsz, hP, hK, hD0, hE⟩ := hv
  have hx := B.exec
  have hb := B.bytes
  have hr := B.returns
  have hts : ∀ w ∈ lw_good, w.before _ s = true := fun w h => atoms_spec (ws := wx y_So_widen b_So_widen 2 none) B.pre w (List.mem_cons_of_mem _ h)
  have hown : s.vm.findClass R_So = some m.cls := findClass_of_methodNamed B.named
  have hlocks := B.notSynchronized
  have htr9 : e.platform.stackTraces = false := by rw [B.admits.platform]; exact htr
  subst hsz
  have hNS := xx_nostat hP
  have hD := hD0.self (sz := s.heap.size)
  generalize hAe : va_A [(so, .inr (3, [.ref sb, .int (nI a), .int (nI lm), .int (bI fl)]))] s.heap.size = A at hD hE hNS ⊢
  have hA : ∀ q : Nat, s.heap.size ≤ q → A q := fun q h => by rw [← hAe]; exact Or.inr h
  have hS : va_S A s.heap s.heap [] := va_S.rf
  have hl := lv_entry ([.ref so, .int (nI ou)]) (n := 2) (Nat.le_of_ble_eq_true rfl)
  rw [lg_entry_eq]
  generalize (lg_sl ([.ref so, .int (nI ou)]) ++ List.replicate (2 - (lg_sl ([.ref so, .int (nI ou)])).length) Slot.unset).toArray = ls at hl ⊢
  have hl : lv_has ls 2 [(0, .ref so), (1, .int (nI ou))] := hl
  refine lv_aload_n hx hb d_So_widen_0 rfl (lv_at hl 0 rfl) ?_
  refine va_get (D := G) (ci := 3) (v := .int (nI a)) (C := R_So) (T := F_So) (N := 4) hx hb hts i_So hown hK hP 0 rfl rfl 1 (by decide) (hts _ m_49) (fun _ h9 => h9) rfl d_So_widen_1 ?_
  refine lv_aload_n hx hb d_So_widen_4 rfl (lv_at hl 0 rfl) ?_
  refine va_get (D := G) (ci := 3) (v := .int (nI lm)) (C := R_So) (T := F_So) (N := 4) hx hb hts i_So hown hK hP 0 rfl rfl 2 (by decide) (hts _ m_50) (fun _ h9 => h9) rfl d_So_widen_5 ?_
  refine lv_icmp_eq (tgt := 16) hx hb d_So_widen_8 (by decide) (fun c_1 => ?_) (fun c_1 => ?_)
  · have c_1 : a = lm := (nI_eq (a := a) (b := lm) (by omega) (by omega)).mp c_1
    refine lv_aload_n hx hb d_So_widen_16 rfl (lv_at hl 0 rfl) ?_
    refine lv_iload_n hx hb d_So_widen_17 rfl (lv_at hl 1 rfl) ?_
    refine va_put (D := G) (ci := 3) (v := .int (nI ou)) (ty := .int) (C := R_So) (T := F_So) (N := 4) hx hb hts i_So t_So t_So_ok n_So hown hK hP hD hS 0 rfl rfl 2 (by decide) (hts _ m_50) (fun _ h9 => h9) rfl (by decide +kernel) rfl rfl (Nat.le_of_ble_eq_true rfl) d_So_widen_18 (fun H locs hP hD hS => ?_)
    have hP : va_P G classes [(so, .inr (3, [.ref sb, .int (nI a), .int (nI ou), .int (bI fl)]))] H := hP
    have hD : va_D A [(so, .inr (3, [.ref sb, .int (nI a), .int (nI ou), .int (bI fl)]))] := hD
    have e9 : ([(so, .inr (3, [.ref sb, .int (nI a), .int (nI ou), .int (bI (sWd a lm fl))]))] : va_W) = [(so, .inr (3, [.ref sb, .int (nI a), .int (nI ou), .int (bI fl)]))] := by rw [show (bI (sWd a lm fl) : Int32) = (bI fl) from by first | (simp [bI, sWd, c_1]; done) | (exfalso; simp_all; done)]
    rw [← e9] at hP hD
    exact ex_W (fun _ h => ex_mq h) (W.vret hx hb hr (fun t ht hW => ⟨⟨_, ⟨rfl, rfl⟩, by rw [ht]; exact hP, hD⟩, hS.F ht⟩) hS.2.2 d_So_widen_21)
  · have c_1 : ¬ a = lm := fun q => c_1 ((nI_eq (a := a) (b := lm) (by omega) (by omega)).mpr q)
    refine lv_aload_n hx hb d_So_widen_11 rfl (lv_at hl 0 rfl) ?_
    refine lv_iconst (v := 1) hx hb d_So_widen_12 (by decide) ?_
    refine va_put (D := G) (ci := 3) (v := .int 1) (ty := .boolean) (C := R_So) (T := F_So) (N := 4) hx hb hts i_So t_So t_So_ok n_So hown hK hP hD hS 0 rfl rfl 3 (by decide) (hts _ m_51) (fun _ h9 => h9) rfl (by decide +kernel) rfl rfl (Nat.le_of_ble_eq_true rfl) d_So_widen_13 (fun H locs hP hD hS => ?_)
    have hP : va_P G classes [(so, .inr (3, [.ref sb, .int (nI a), .int (nI lm), .int 1]))] H := hP
    have hD : va_D A [(so, .inr (3, [.ref sb, .int (nI a), .int (nI lm), .int 1]))] := hD
    refine lv_aload_n hx hb d_So_widen_16 rfl (lv_at hl 0 rfl) ?_
    refine lv_iload_n hx hb d_So_widen_17 rfl (lv_at hl 1 rfl) ?_
    refine va_put (D := G) (ci := 3) (v := .int (nI ou)) (ty := .int) (C := R_So) (T := F_So) (N := 4) hx hb hts i_So t_So t_So_ok n_So hown hK hP hD hS 0 rfl rfl 2 (by decide) (hts _ m_50) (fun _ h9 => h9) rfl (by decide +kernel) rfl rfl (Nat.le_of_ble_eq_true rfl) d_So_widen_18 (fun H locs hP hD hS => ?_)
    have hP : va_P G classes [(so, .inr (3, [.ref sb, .int (nI a), .int (nI ou), .int 1]))] H := hP
    have hD : va_D A [(so, .inr (3, [.ref sb, .int (nI a), .int (nI ou), .int 1]))] := hD
    have e9 : ([(so, .inr (3, [.ref sb, .int (nI a), .int (nI ou), .int (bI (sWd a lm fl))]))] : va_W) = [(so, .inr (3, [.ref sb, .int (nI a), .int (nI ou), .int 1]))] := by rw [show (bI (sWd a lm fl) : Int32) = 1 from by first | (simp [bI, sWd, c_1]; done) | (exfalso; simp_all; done)]
    rw [← e9] at hP hD
    exact ex_W (fun _ h => ex_mq h) (W.vret hx hb hr (fun t ht hW => ⟨⟨_, ⟨rfl, rfl⟩, by rw [ht]; exact hP, hD⟩, hS.F ht⟩) hS.2.2 d_So_widen_21)
set_option maxHeartbeats 8000000 in
set_option maxRecDepth 100000 in
theorem c_Co_add (l : Launch) (htr : l.stackTraces = false) (G : va_G) (cB cI cJ cZ : ClassId) (co : Nat) (co1 : Nat) (co2 : Nat) (co3 : Nat) (co4 : Nat) (co5 : Nat) (co6 : Nat) (co7 : Nat) (co8 : Nat) (co9 : Nat) (z : Nat) (zl : Nat) (k1 : Nat → Int32) (k3 : Nat → Int32) (k4 : Nat → Int32) (k5 : Nat → Int32) (k6 : Nat → Int32) (k7 : Nat → Int32) (k8 : Nat → Int32) (k9 : Nat → Int32) (k2 : Nat → Int64) (op : Int32) (hz : z < 2000) (sz : Nat) : MetX l y_Co_add (wx y_Co_add b_Co_add 3 (some .int)) { frames := 0, cells := 0, slots := 0, locals := 0 } (XP G classes (xtys cB cI cJ cZ) xE [.ref co, .int op] [(co, .inr (9, [.int (nI z), .ref co1, .ref co2, .ref co3, .ref co4, .ref co5, .ref co6, .ref co7, .int (nI zl), .ref co8, .ref co9])), (co1, .inl (cI, 2000, .inl k1)), (co2, .inl (cJ, 2000, .inr (.inl k2))), (co3, .inl (cI, 2000, .inl k3)), (co4, .inl (cI, 2000, .inl k4)), (co5, .inl (cI, 2000, .inl k5)), (co6, .inl (cI, 2000, .inl k6)), (co7, .inl (cI, 2000, .inl k7))] sz) (XQ G classes (va_A [(co, .inr (9, [.int (nI z), .ref co1, .ref co2, .ref co3, .ref co4, .ref co5, .ref co6, .ref co7, .int (nI zl), .ref co8, .ref co9])), (co1, .inl (cI, 2000, .inl k1)), (co2, .inl (cJ, 2000, .inr (.inl k2))), (co3, .inl (cI, 2000, .inl k3)), (co4, .inl (cI, 2000, .inl k4)), (co5, .inl (cI, 2000, .inl k5)), (co6, .inl (cI, 2000, .inl k6)), (co7, .inl (cI, 2000, .inl k7))] sz) (fun o w1 => o = .returned (some (.int (nI z))) ∧ w1 = [(co, .inr (9, [.int (nI (z + 1)), .ref co1, .ref co2, .ref co3, .ref co4, .ref co5, .ref co6, .ref co7, .int (nI zl), .ref co8, .ref co9])), (co1, .inl (cI, 2000, .inl (upd k1 z op))), (co2, .inl (cJ, 2000, .inr (.inl (vp_updL k2 z 0)))), (co3, .inl (cI, 2000, .inl (upd k3 z 64))), (co4, .inl (cI, 2000, .inl (upd k4 z (-1)))), (co5, .inl (cI, 2000, .inl (upd k5 z (-1)))), (co6, .inl (cI, 2000, .inl (upd k6 z 0))), (co7, .inl (cI, 2000, .inl (upd k7 z (-1))))])) 0 0 (va_A [(co, .inr (9, [.int (nI z), .ref co1, .ref co2, .ref co3, .ref co4, .ref co5, .ref co6, .ref co7, .int (nI zl), .ref co8, .ref co9])), (co1, .inl (cI, 2000, .inl k1)), (co2, .inl (cJ, 2000, .inr (.inl k2))), (co3, .inl (cI, 2000, .inl k3)), (co4, .inl (cI, 2000, .inl k4)), (co5, .inl (cI, 2000, .inl k5)), (co6, .inl (cI, 2000, .inl k6)), (co7, .inl (cI, 2000, .inl k7))] sz) := by
  refine ex_ofW (cc := b_Co_add) (maxL := 3) (ret := (some .int)) (by decide) rfl ?_
  intro p e s m args below meth c s₁ B hml hno hv
  obtain ⟨rfl, hsz, hP, hK, hD0, hE⟩ := hv
  have hx := B.exec
  have hb := B.bytes
  have hr := B.returns
  have hts : ∀ w ∈ lw_good, w.before _ s = true := fun w h => atoms_spec (ws := wx y_Co_add b_Co_add 3 (some .int)) B.pre w (List.mem_cons_of_mem _ h)
  have hown : s.vm.findClass R_Co = some m.cls := findClass_of_methodNamed B.named
  have hlocks := B.notSynchronized
  have htr9 : e.platform.stackTraces = false := by rw [B.admits.platform]; exact htr
  subst hsz
  have hNS := xx_nostat hP
  have hD := hD0.self (sz := s.heap.size)
  generalize hAe : va_A [(co, .inr (9, [.int (nI z), .ref co1, .ref co2, .ref co3, .ref co4, .ref co5, .ref co6, .ref co7, .int (nI zl), .ref co8, .ref co9])), (co1, .inl (cI, 2000, .inl k1)), (co2, .inl (cJ, 2000, .inr (.inl k2))), (co3, .inl (cI, 2000, .inl k3)), (co4, .inl (cI, 2000, .inl k4)), (co5, .inl (cI, 2000, .inl k5)), (co6, .inl (cI, 2000, .inl k6)), (co7, .inl (cI, 2000, .inl k7))] s.heap.size = A at hD hE hNS ⊢
  have hA : ∀ q : Nat, s.heap.size ≤ q → A q := fun q h => by rw [← hAe]; exact Or.inr h
  have hS : va_S A s.heap s.heap [] := va_S.rf
  have hl := lv_entry ([.ref co, .int op]) (n := 3) (Nat.le_of_ble_eq_true rfl)
  rw [lg_entry_eq]
  generalize (lg_sl ([.ref co, .int op]) ++ List.replicate (3 - (lg_sl ([.ref co, .int op])).length) Slot.unset).toArray = ls at hl ⊢
  have hl : lv_has ls 3 [(0, .ref co), (1, .int op)] := hl
  refine lv_aload_n hx hb d_Co_add_0 rfl (lv_at hl 0 rfl) ?_
  refine va_get (D := G) (ci := 9) (v := .int (nI z)) (C := R_Co) (T := F_Co) (N := 11) hx hb hts i_Co hown hK hP 0 rfl rfl 0 (by decide) (hts _ m_256) (fun _ h9 => h9) rfl d_Co_add_1 ?_
  refine lv_istore_n (lv' := [(2, .int (nI z)), (0, .ref co), (1, .int op)]) hx hb d_Co_add_4 rfl hl (by decide) rfl (fun ls hl => ?_)
  refine lv_aload_n hx hb d_Co_add_5 rfl (lv_at hl 1 rfl) ?_
  refine va_get (D := G) (ci := 9) (v := .ref co1) (C := R_Co) (T := F_Co) (N := 11) hx hb hts i_Co hown hK hP 0 rfl rfl 1 (by decide) (hts _ m_259) (fun _ h9 => h9) rfl d_Co_add_6 ?_
  refine lv_iload_n hx hb d_Co_add_9 rfl (lv_at hl 0 rfl) ?_
  refine lv_iload_n hx hb d_Co_add_10 rfl (lv_at hl 2 rfl) ?_
  refine va_iast hx hb hK hP hD hS 1 1 rfl rfl (vp_in_nI (show z < 2000 by omega) (by decide)) d_Co_add_11 (fun H locs hP hD hS => ?_)
  rw [nI_clamp (show z < 2 ^ 31 by omega)] at hP hD
  have hP : va_P G classes [(co, .inr (9, [.int (nI z), .ref co1, .ref co2, .ref co3, .ref co4, .ref co5, .ref co6, .ref co7, .int (nI zl), .ref co8, .ref co9])), (co1, .inl (cI, 2000, .inl (upd k1 z op))), (co2, .inl (cJ, 2000, .inr (.inl k2))), (co3, .inl (cI, 2000, .inl k3)), (co4, .inl (cI, 2000, .inl k4)), (co5, .inl (cI, 2000, .inl k5)), (co6, .inl (cI, 2000, .inl k6)), (co7, .inl (cI, 2000, .inl k7))] H := hP
  have hD : va_D A [(co, .inr (9, [.int (nI z), .ref co1, .ref co2, .ref co3, .ref co4, .ref co5, .ref co6, .ref co7, .int (nI zl), .ref co8, .ref co9])), (co1, .inl (cI, 2000, .inl (upd k1 z op))), (co2, .inl (cJ, 2000, .inr (.inl k2))), (co3, .inl (cI, 2000, .inl k3)), (co4, .inl (cI, 2000, .inl k4)), (co5, .inl (cI, 2000, .inl k5)), (co6, .inl (cI, 2000, .inl k6)), (co7, .inl (cI, 2000, .inl k7))] := hD
  refine lv_aload_n hx hb d_Co_add_12 rfl (lv_at hl 1 rfl) ?_
  refine va_get (D := G) (ci := 9) (v := .ref co2) (C := R_Co) (T := F_Co) (N := 11) hx hb hts i_Co hown hK hP 0 rfl rfl 2 (by decide) (hts _ m_263) (fun _ h9 => h9) rfl d_Co_add_13 ?_
  refine lv_iload_n hx hb d_Co_add_16 rfl (lv_at hl 0 rfl) ?_
  refine lv_lconst (v := 0) hx hb d_Co_add_17 (by decide) ?_
  refine va_last hx hb hK hP hD hS 2 2 rfl rfl (vp_in_nI (show z < 2000 by omega) (by decide)) d_Co_add_18 (fun H locs hP hD hS => ?_)
  rw [nI_clamp (show z < 2 ^ 31 by omega)] at hP hD
  have hP : va_P G classes [(co, .inr (9, [.int (nI z), .ref co1, .ref co2, .ref co3, .ref co4, .ref co5, .ref co6, .ref co7, .int (nI zl), .ref co8, .ref co9])), (co1, .inl (cI, 2000, .inl (upd k1 z op))), (co2, .inl (cJ, 2000, .inr (.inl (vp_updL k2 z 0)))), (co3, .inl (cI, 2000, .inl k3)), (co4, .inl (cI, 2000, .inl k4)), (co5, .inl (cI, 2000, .inl k5)), (co6, .inl (cI, 2000, .inl k6)), (co7, .inl (cI, 2000, .inl k7))] H := hP
  have hD : va_D A [(co, .inr (9, [.int (nI z), .ref co1, .ref co2, .ref co3, .ref co4, .ref co5, .ref co6, .ref co7, .int (nI zl), .ref co8, .ref co9])), (co1, .inl (cI, 2000, .inl (upd k1 z op))), (co2, .inl (cJ, 2000, .inr (.inl (vp_updL k2 z 0)))), (co3, .inl (cI, 2000, .inl k3)), (co4, .inl (cI, 2000, .inl k4)), (co5, .inl (cI, 2000, .inl k5)), (co6, .inl (cI, 2000, .inl k6)), (co7, .inl (cI, 2000, .inl k7))] := hD
  refine lv_aload_n hx hb d_Co_add_19 rfl (lv_at hl 1 rfl) ?_
  refine va_get (D := G) (ci := 9) (v := .ref co3) (C := R_Co) (T := F_Co) (N := 11) hx hb hts i_Co hown hK hP 0 rfl rfl 3 (by decide) (hts _ m_267) (fun _ h9 => h9) rfl d_Co_add_20 ?_
  refine lv_iload_n hx hb d_Co_add_23 rfl (lv_at hl 0 rfl) ?_
  refine lv_bipush (v := 64) hx hb d_Co_add_24 (by decide) ?_
  refine va_iast hx hb hK hP hD hS 3 1 rfl rfl (vp_in_nI (show z < 2000 by omega) (by decide)) d_Co_add_26 (fun H locs hP hD hS => ?_)
  rw [nI_clamp (show z < 2 ^ 31 by omega)] at hP hD
  have hP : va_P G classes [(co, .inr (9, [.int (nI z), .ref co1, .ref co2, .ref co3, .ref co4, .ref co5, .ref co6, .ref co7, .int (nI zl), .ref co8, .ref co9])), (co1, .inl (cI, 2000, .inl (upd k1 z op))), (co2, .inl (cJ, 2000, .inr (.inl (vp_updL k2 z 0)))), (co3, .inl (cI, 2000, .inl (upd k3 z 64))), (co4, .inl (cI, 2000, .inl k4)), (co5, .inl (cI, 2000, .inl k5)), (co6, .inl (cI, 2000, .inl k6)), (co7, .inl (cI, 2000, .inl k7))] H := hP
  have hD : va_D A [(co, .inr (9, [.int (nI z), .ref co1, .ref co2, .ref co3, .ref co4, .ref co5, .ref co6, .ref co7, .int (nI zl), .ref co8, .ref co9])), (co1, .inl (cI, 2000, .inl (upd k1 z op))), (co2, .inl (cJ, 2000, .inr (.inl (vp_updL k2 z 0)))), (co3, .inl (cI, 2000, .inl (upd k3 z 64))), (co4, .inl (cI, 2000, .inl k4)), (co5, .inl (cI, 2000, .inl k5)), (co6, .inl (cI, 2000, .inl k6)), (co7, .inl (cI, 2000, .inl k7))] := hD
  refine lv_aload_n hx hb d_Co_add_27 rfl (lv_at hl 1 rfl) ?_
  refine va_get (D := G) (ci := 9) (v := .ref co4) (C := R_Co) (T := F_Co) (N := 11) hx hb hts i_Co hown hK hP 0 rfl rfl 4 (by decide) (hts _ m_271) (fun _ h9 => h9) rfl d_Co_add_28 ?_
  refine lv_iload_n hx hb d_Co_add_31 rfl (lv_at hl 0 rfl) ?_
  refine lv_iconst (v := (-1)) hx hb d_Co_add_32 (by decide) ?_
  refine va_iast hx hb hK hP hD hS 4 1 rfl rfl (vp_in_nI (show z < 2000 by omega) (by decide)) d_Co_add_33 (fun H locs hP hD hS => ?_)
  rw [nI_clamp (show z < 2 ^ 31 by omega)] at hP hD
  have hP : va_P G classes [(co, .inr (9, [.int (nI z), .ref co1, .ref co2, .ref co3, .ref co4, .ref co5, .ref co6, .ref co7, .int (nI zl), .ref co8, .ref co9])), (co1, .inl (cI, 2000, .inl (upd k1 z op))), (co2, .inl (cJ, 2000, .inr (.inl (vp_updL k2 z 0)))), (co3, .inl (cI, 2000, .inl (upd k3 z 64))), (co4, .inl (cI, 2000, .inl (upd k4 z (-1)))), (co5, .inl (cI, 2000, .inl k5)), (co6, .inl (cI, 2000, .inl k6)), (co7, .inl (cI, 2000, .inl k7))] H := hP
  have hD : va_D A [(co, .inr (9, [.int (nI z), .ref co1, .ref co2, .ref co3, .ref co4, .ref co5, .ref co6, .ref co7, .int (nI zl), .ref co8, .ref co9])), (co1, .inl (cI, 2000, .inl (upd k1 z op))), (co2, .inl (cJ, 2000, .inr (.inl (vp_updL k2 z 0)))), (co3, .inl (cI, 2000, .inl (upd k3 z 64))), (co4, .inl (cI, 2000, .inl (upd k4 z (-1)))), (co5, .inl (cI, 2000, .inl k5)), (co6, .inl (cI, 2000, .inl k6)), (co7, .inl (cI, 2000, .inl k7))] := hD
  refine lv_aload_n hx hb d_Co_add_34 rfl (lv_at hl 1 rfl) ?_
  refine va_get (D := G) (ci := 9) (v := .ref co5) (C := R_Co) (T := F_Co) (N := 11) hx hb hts i_Co hown hK hP 0 rfl rfl 5 (by decide) (hts _ m_274) (fun _ h9 => h9) rfl d_Co_add_35 ?_
  refine lv_iload_n hx hb d_Co_add_38 rfl (lv_at hl 0 rfl) ?_
  refine lv_iconst (v := (-1)) hx hb d_Co_add_39 (by decide) ?_
  refine va_iast hx hb hK hP hD hS 5 1 rfl rfl (vp_in_nI (show z < 2000 by omega) (by decide)) d_Co_add_40 (fun H locs hP hD hS => ?_)
  rw [nI_clamp (show z < 2 ^ 31 by omega)] at hP hD
  have hP : va_P G classes [(co, .inr (9, [.int (nI z), .ref co1, .ref co2, .ref co3, .ref co4, .ref co5, .ref co6, .ref co7, .int (nI zl), .ref co8, .ref co9])), (co1, .inl (cI, 2000, .inl (upd k1 z op))), (co2, .inl (cJ, 2000, .inr (.inl (vp_updL k2 z 0)))), (co3, .inl (cI, 2000, .inl (upd k3 z 64))), (co4, .inl (cI, 2000, .inl (upd k4 z (-1)))), (co5, .inl (cI, 2000, .inl (upd k5 z (-1)))), (co6, .inl (cI, 2000, .inl k6)), (co7, .inl (cI, 2000, .inl k7))] H := hP
  have hD : va_D A [(co, .inr (9, [.int (nI z), .ref co1, .ref co2, .ref co3, .ref co4, .ref co5, .ref co6, .ref co7, .int (nI zl), .ref co8, .ref co9])), (co1, .inl (cI, 2000, .inl (upd k1 z op))), (co2, .inl (cJ, 2000, .inr (.inl (vp_updL k2 z 0)))), (co3, .inl (cI, 2000, .inl (upd k3 z 64))), (co4, .inl (cI, 2000, .inl (upd k4 z (-1)))), (co5, .inl (cI, 2000, .inl (upd k5 z (-1)))), (co6, .inl (cI, 2000, .inl k6)), (co7, .inl (cI, 2000, .inl k7))] := hD
  refine lv_aload_n hx hb d_Co_add_41 rfl (lv_at hl 1 rfl) ?_
  refine va_get (D := G) (ci := 9) (v := .ref co6) (C := R_Co) (T := F_Co) (N := 11) hx hb hts i_Co hown hK hP 0 rfl rfl 6 (by decide) (hts _ m_278) (fun _ h9 => h9) rfl d_Co_add_42 ?_
  refine lv_iload_n hx hb d_Co_add_45 rfl (lv_at hl 0 rfl) ?_
  refine lv_iconst (v := 0) hx hb d_Co_add_46 (by decide) ?_
  refine va_iast hx hb hK hP hD hS 6 1 rfl rfl (vp_in_nI (show z < 2000 by omega) (by decide)) d_Co_add_47 (fun H locs hP hD hS => ?_)
  rw [nI_clamp (show z < 2 ^ 31 by omega)] at hP hD
  have hP : va_P G classes [(co, .inr (9, [.int (nI z), .ref co1, .ref co2, .ref co3, .ref co4, .ref co5, .ref co6, .ref co7, .int (nI zl), .ref co8, .ref co9])), (co1, .inl (cI, 2000, .inl (upd k1 z op))), (co2, .inl (cJ, 2000, .inr (.inl (vp_updL k2 z 0)))), (co3, .inl (cI, 2000, .inl (upd k3 z 64))), (co4, .inl (cI, 2000, .inl (upd k4 z (-1)))), (co5, .inl (cI, 2000, .inl (upd k5 z (-1)))), (co6, .inl (cI, 2000, .inl (upd k6 z 0))), (co7, .inl (cI, 2000, .inl k7))] H := hP
  have hD : va_D A [(co, .inr (9, [.int (nI z), .ref co1, .ref co2, .ref co3, .ref co4, .ref co5, .ref co6, .ref co7, .int (nI zl), .ref co8, .ref co9])), (co1, .inl (cI, 2000, .inl (upd k1 z op))), (co2, .inl (cJ, 2000, .inr (.inl (vp_updL k2 z 0)))), (co3, .inl (cI, 2000, .inl (upd k3 z 64))), (co4, .inl (cI, 2000, .inl (upd k4 z (-1)))), (co5, .inl (cI, 2000, .inl (upd k5 z (-1)))), (co6, .inl (cI, 2000, .inl (upd k6 z 0))), (co7, .inl (cI, 2000, .inl k7))] := hD
  refine lv_aload_n hx hb d_Co_add_48 rfl (lv_at hl 1 rfl) ?_
  refine va_get (D := G) (ci := 9) (v := .ref co7) (C := R_Co) (T := F_Co) (N := 11) hx hb hts i_Co hown hK hP 0 rfl rfl 7 (by decide) (hts _ m_281) (fun _ h9 => h9) rfl d_Co_add_49 ?_
  refine lv_iload_n hx hb d_Co_add_52 rfl (lv_at hl 0 rfl) ?_
  refine lv_iconst (v := (-1)) hx hb d_Co_add_53 (by decide) ?_
  refine va_iast hx hb hK hP hD hS 7 1 rfl rfl (vp_in_nI (show z < 2000 by omega) (by decide)) d_Co_add_54 (fun H locs hP hD hS => ?_)
  rw [nI_clamp (show z < 2 ^ 31 by omega)] at hP hD
  have hP : va_P G classes [(co, .inr (9, [.int (nI z), .ref co1, .ref co2, .ref co3, .ref co4, .ref co5, .ref co6, .ref co7, .int (nI zl), .ref co8, .ref co9])), (co1, .inl (cI, 2000, .inl (upd k1 z op))), (co2, .inl (cJ, 2000, .inr (.inl (vp_updL k2 z 0)))), (co3, .inl (cI, 2000, .inl (upd k3 z 64))), (co4, .inl (cI, 2000, .inl (upd k4 z (-1)))), (co5, .inl (cI, 2000, .inl (upd k5 z (-1)))), (co6, .inl (cI, 2000, .inl (upd k6 z 0))), (co7, .inl (cI, 2000, .inl (upd k7 z (-1))))] H := hP
  have hD : va_D A [(co, .inr (9, [.int (nI z), .ref co1, .ref co2, .ref co3, .ref co4, .ref co5, .ref co6, .ref co7, .int (nI zl), .ref co8, .ref co9])), (co1, .inl (cI, 2000, .inl (upd k1 z op))), (co2, .inl (cJ, 2000, .inr (.inl (vp_updL k2 z 0)))), (co3, .inl (cI, 2000, .inl (upd k3 z 64))), (co4, .inl (cI, 2000, .inl (upd k4 z (-1)))), (co5, .inl (cI, 2000, .inl (upd k5 z (-1)))), (co6, .inl (cI, 2000, .inl (upd k6 z 0))), (co7, .inl (cI, 2000, .inl (upd k7 z (-1))))] := hD
  refine lv_aload_n hx hb d_Co_add_55 rfl (lv_at hl 1 rfl) ?_
  refine lv_dup hx hb d_Co_add_56 rfl ?_
  refine va_get (D := G) (ci := 9) (v := .int (nI z)) (C := R_Co) (T := F_Co) (N := 11) hx hb hts i_Co hown hK hP 0 rfl rfl 0 (by decide) (hts _ m_256) (fun _ h9 => h9) rfl d_Co_add_57 ?_
  refine lv_iconst (v := 1) hx hb d_Co_add_60 (by decide) ?_
  refine lv_iadd hx hb d_Co_add_61 ?_
  refine lv_topi (fun x9 e_1 => ?_)
  obtain rfl : x9 = nI (z + 1) := e_1.trans (nI_add _ 1)
  refine va_put (D := G) (ci := 9) (v := .int (nI (z + 1))) (ty := .int) (C := R_Co) (T := F_Co) (N := 11) hx hb hts i_Co t_Co t_Co_ok n_Co hown hK hP hD hS 0 rfl rfl 0 (by decide) (hts _ m_256) (fun _ h9 => h9) rfl (by decide +kernel) rfl rfl (Nat.le_of_ble_eq_true rfl) d_Co_add_62 (fun H locs hP hD hS => ?_)
  have hP : va_P G classes [(co, .inr (9, [.int (nI (z + 1)), .ref co1, .ref co2, .ref co3, .ref co4, .ref co5, .ref co6, .ref co7, .int (nI zl), .ref co8, .ref co9])), (co1, .inl (cI, 2000, .inl (upd k1 z op))), (co2, .inl (cJ, 2000, .inr (.inl (vp_updL k2 z 0)))), (co3, .inl (cI, 2000, .inl (upd k3 z 64))), (co4, .inl (cI, 2000, .inl (upd k4 z (-1)))), (co5, .inl (cI, 2000, .inl (upd k5 z (-1)))), (co6, .inl (cI, 2000, .inl (upd k6 z 0))), (co7, .inl (cI, 2000, .inl (upd k7 z (-1))))] H := hP
  have hD : va_D A [(co, .inr (9, [.int (nI (z + 1)), .ref co1, .ref co2, .ref co3, .ref co4, .ref co5, .ref co6, .ref co7, .int (nI zl), .ref co8, .ref co9])), (co1, .inl (cI, 2000, .inl (upd k1 z op))), (co2, .inl (cJ, 2000, .inr (.inl (vp_updL k2 z 0)))), (co3, .inl (cI, 2000, .inl (upd k3 z 64))), (co4, .inl (cI, 2000, .inl (upd k4 z (-1)))), (co5, .inl (cI, 2000, .inl (upd k5 z (-1)))), (co6, .inl (cI, 2000, .inl (upd k6 z 0))), (co7, .inl (cI, 2000, .inl (upd k7 z (-1))))] := hD
  refine lv_iload_n hx hb d_Co_add_65 rfl (lv_at hl 0 rfl) ?_
  exact ex_W (fun _ h => ex_mq h) (W.iret (v := nI z) hx hb hr (fun t ht hW => ⟨⟨_, ⟨rfl, rfl⟩, by rw [ht]; exact hP, hD⟩, hS.F ht⟩) hS.2.2 d_Co_add_66)
set_option maxHeartbeats 8000000 in
set_option maxRecDepth 100000 in
theorem c_Co_addLabel (l : Launch) (htr : l.stackTraces = false) (G : va_G) (cB cI cJ cZ : ClassId) (co : Nat) (co1 : Nat) (co2 : Nat) (co3 : Nat) (co4 : Nat) (co5 : Nat) (co6 : Nat) (co7 : Nat) (co8 : Nat) (co9 : Nat) (zl : Nat) (cs : Int32) (k8 : Nat → Int32) (k9 : Nat → Int32) (n : Int32) (hz : zl < 2000) (sz : Nat) : MetX l y_Co_addLabel (wx y_Co_addLabel b_Co_addLabel 2 none) { frames := 0, cells := 0, slots := 0, locals := 0 } (XP G classes (xtys cB cI cJ cZ) xE [.ref co, .int n] [(co, .inr (9, [.int cs, .ref co1, .ref co2, .ref co3, .ref co4, .ref co5, .ref co6, .ref co7, .int (nI zl), .ref co8, .ref co9])), (co8, .inl (cI, 2000, .inl k8)), (co9, .inl (cI, 2000, .inl k9))] sz) (XQ G classes (va_A [(co, .inr (9, [.int cs, .ref co1, .ref co2, .ref co3, .ref co4, .ref co5, .ref co6, .ref co7, .int (nI zl), .ref co8, .ref co9])), (co8, .inl (cI, 2000, .inl k8)), (co9, .inl (cI, 2000, .inl k9))] sz) (fun o w1 => o = .returned none ∧ w1 = [(co, .inr (9, [.int cs, .ref co1, .ref co2, .ref co3, .ref co4, .ref co5, .ref co6, .ref co7, .int (nI (zl + 1)), .ref co8, .ref co9])), (co8, .inl (cI, 2000, .inl (upd k8 zl n))), (co9, .inl (cI, 2000, .inl (upd k9 zl (-1))))])) 0 0 (va_A [(co, .inr (9, [.int cs, .ref co1, .ref co2, .ref co3, .ref co4, .ref co5, .ref co6, .ref co7, .int (nI zl), .ref co8, .ref co9])), (co8, .inl (cI, 2000, .inl k8)), (co9, .inl (cI, 2000, .inl k9))] sz) := by
  refine ex_ofW (cc := b_Co_addLabel) (maxL := 2) (ret := none) (by decide) rfl ?_
  intro p e s m args below meth c s₁ B hml hno hv
  obtain ⟨rfl, hsz, hP, hK, hD0, hE⟩ := hv
  have hx := B.exec
  have hb := B.bytes
  have hr := B.returns
  have hts : ∀ w ∈ lw_good, w.before _ s = true := fun w h => atoms_spec (ws := wx y_Co_addLabel b_Co_addLabel 2 none) B.pre w (List.mem_cons_of_mem _ h)
  have hown : s.vm.findClass R_Co = some m.cls := findClass_of_methodNamed B.named
  have hlocks := B.notSynchronized
  have htr9 : e.platform.stackTraces = false := by rw [B.admits.platform]; exact htr
  subst hsz
  have hNS := xx_nostat hP
  have hD := hD0.self (sz := s.heap.size)
  generalize hAe : va_A [(co, .inr (9, [.int cs, .ref co1, .ref co2, .ref co3, .ref co4, .ref co5, .ref co6, .ref co7, .int (nI zl), .ref co8, .ref co9])), (co8, .inl (cI, 2000, .inl k8)), (co9, .inl (cI, 2000, .inl k9))] s.heap.size = A at hD hE hNS ⊢
  have hA : ∀ q : Nat, s.heap.size ≤ q → A q := fun q h => by rw [← hAe]; exact Or.inr h
  have hS : va_S A s.heap s.heap [] := va_S.rf
  have hl := lv_entry ([.ref co, .int n]) (n := 2) (Nat.le_of_ble_eq_true rfl)
  rw [lg_entry_eq]
  generalize (lg_sl ([.ref co, .int n]) ++ List.replicate (2 - (lg_sl ([.ref co, .int n])).length) Slot.unset).toArray = ls at hl ⊢
  have hl : lv_has ls 2 [(0, .ref co), (1, .int n)] := hl
  refine lv_aload_n hx hb d_Co_addLabel_0 rfl (lv_at hl 0 rfl) ?_
  refine va_get (D := G) (ci := 9) (v := .ref co8) (C := R_Co) (T := F_Co) (N := 11) hx hb hts i_Co hown hK hP 0 rfl rfl 9 (by decide) (hts _ m_286) (fun _ h9 => h9) rfl d_Co_addLabel_1 ?_
  refine lv_aload_n hx hb d_Co_addLabel_4 rfl (lv_at hl 0 rfl) ?_
  refine va_get (D := G) (ci := 9) (v := .int (nI zl)) (C := R_Co) (T := F_Co) (N := 11) hx hb hts i_Co hown hK hP 0 rfl rfl 8 (by decide) (hts _ m_284) (fun _ h9 => h9) rfl d_Co_addLabel_5 ?_
  refine lv_iload_n hx hb d_Co_addLabel_8 rfl (lv_at hl 1 rfl) ?_
  refine va_iast hx hb hK hP hD hS 1 1 rfl rfl (vp_in_nI (show zl < 2000 by omega) (by decide)) d_Co_addLabel_9 (fun H locs hP hD hS => ?_)
  rw [nI_clamp (show zl < 2 ^ 31 by omega)] at hP hD
  have hP : va_P G classes [(co, .inr (9, [.int cs, .ref co1, .ref co2, .ref co3, .ref co4, .ref co5, .ref co6, .ref co7, .int (nI zl), .ref co8, .ref co9])), (co8, .inl (cI, 2000, .inl (upd k8 zl n))), (co9, .inl (cI, 2000, .inl k9))] H := hP
  have hD : va_D A [(co, .inr (9, [.int cs, .ref co1, .ref co2, .ref co3, .ref co4, .ref co5, .ref co6, .ref co7, .int (nI zl), .ref co8, .ref co9])), (co8, .inl (cI, 2000, .inl (upd k8 zl n))), (co9, .inl (cI, 2000, .inl k9))] := hD
  refine lv_aload_n hx hb d_Co_addLabel_10 rfl (lv_at hl 0 rfl) ?_
  refine va_get (D := G) (ci := 9) (v := .ref co9) (C := R_Co) (T := F_Co) (N := 11) hx hb hts i_Co hown hK hP 0 rfl rfl 10 (by decide) (hts _ m_288) (fun _ h9 => h9) rfl d_Co_addLabel_11 ?_
  refine lv_aload_n hx hb d_Co_addLabel_14 rfl (lv_at hl 0 rfl) ?_
  refine va_get (D := G) (ci := 9) (v := .int (nI zl)) (C := R_Co) (T := F_Co) (N := 11) hx hb hts i_Co hown hK hP 0 rfl rfl 8 (by decide) (hts _ m_284) (fun _ h9 => h9) rfl d_Co_addLabel_15 ?_
  refine lv_iconst (v := (-1)) hx hb d_Co_addLabel_18 (by decide) ?_
  refine va_iast hx hb hK hP hD hS 2 1 rfl rfl (vp_in_nI (show zl < 2000 by omega) (by decide)) d_Co_addLabel_19 (fun H locs hP hD hS => ?_)
  rw [nI_clamp (show zl < 2 ^ 31 by omega)] at hP hD
  have hP : va_P G classes [(co, .inr (9, [.int cs, .ref co1, .ref co2, .ref co3, .ref co4, .ref co5, .ref co6, .ref co7, .int (nI zl), .ref co8, .ref co9])), (co8, .inl (cI, 2000, .inl (upd k8 zl n))), (co9, .inl (cI, 2000, .inl (upd k9 zl (-1))))] H := hP
  have hD : va_D A [(co, .inr (9, [.int cs, .ref co1, .ref co2, .ref co3, .ref co4, .ref co5, .ref co6, .ref co7, .int (nI zl), .ref co8, .ref co9])), (co8, .inl (cI, 2000, .inl (upd k8 zl n))), (co9, .inl (cI, 2000, .inl (upd k9 zl (-1))))] := hD
  refine lv_aload_n hx hb d_Co_addLabel_20 rfl (lv_at hl 0 rfl) ?_
  refine lv_dup hx hb d_Co_addLabel_21 rfl ?_
  refine va_get (D := G) (ci := 9) (v := .int (nI zl)) (C := R_Co) (T := F_Co) (N := 11) hx hb hts i_Co hown hK hP 0 rfl rfl 8 (by decide) (hts _ m_284) (fun _ h9 => h9) rfl d_Co_addLabel_22 ?_
  refine lv_iconst (v := 1) hx hb d_Co_addLabel_25 (by decide) ?_
  refine lv_iadd hx hb d_Co_addLabel_26 ?_
  refine lv_topi (fun x9 e_1 => ?_)
  obtain rfl : x9 = nI (zl + 1) := e_1.trans (nI_add _ 1)
  refine va_put (D := G) (ci := 9) (v := .int (nI (zl + 1))) (ty := .int) (C := R_Co) (T := F_Co) (N := 11) hx hb hts i_Co t_Co t_Co_ok n_Co hown hK hP hD hS 0 rfl rfl 8 (by decide) (hts _ m_284) (fun _ h9 => h9) rfl (by decide +kernel) rfl rfl (Nat.le_of_ble_eq_true rfl) d_Co_addLabel_27 (fun H locs hP hD hS => ?_)
  have hP : va_P G classes [(co, .inr (9, [.int cs, .ref co1, .ref co2, .ref co3, .ref co4, .ref co5, .ref co6, .ref co7, .int (nI (zl + 1)), .ref co8, .ref co9])), (co8, .inl (cI, 2000, .inl (upd k8 zl n))), (co9, .inl (cI, 2000, .inl (upd k9 zl (-1))))] H := hP
  have hD : va_D A [(co, .inr (9, [.int cs, .ref co1, .ref co2, .ref co3, .ref co4, .ref co5, .ref co6, .ref co7, .int (nI (zl + 1)), .ref co8, .ref co9])), (co8, .inl (cI, 2000, .inl (upd k8 zl n))), (co9, .inl (cI, 2000, .inl (upd k9 zl (-1))))] := hD
  exact ex_W (fun _ h => ex_mq h) (W.vret hx hb hr (fun t ht hW => ⟨⟨_, ⟨rfl, rfl⟩, by rw [ht]; exact hP, hD⟩, hS.F ht⟩) hS.2.2 d_Co_addLabel_30)
set_option maxHeartbeats 8000000 in
set_option maxRecDepth 100000 in
theorem c_Wa_parameterCountOf (l : Launch) (htr : l.stackTraces = false) (G : va_G) (cB cI cJ cZ : ClassId) (wa : Nat) (wa1 : Nat) (wa2 : Nat) (wa3 : Nat) (wa4 : Nat) (wa5 : Nat) (wa6 : Nat) (wa7 : Nat) (wa8 : Nat) (wa9 : Nat) (wa10 : Nat) (wa11 : Nat) (ex : Nat) (co : Nat) (w_types : Int32) (w_funs : Int32) (w_hasmem : Int32) (w_globs : Int32) (w_first : Int64) (w_most : Int64) (t1 : Nat → Int32) (t4 : Nat → Int32) (i : Nat) (ty : Nat) (hi : i < 30) (hty : ty < 20) (hft : t4 i = nI ty) (sz : Nat) : MetX l y_Wa_parameterCountOf (wx y_Wa_parameterCountOf b_Wa_parameterCountOf 2 (some .int)) { frames := 0, cells := 0, slots := 0, locals := 0 } (XP G classes (xtys cB cI cJ cZ) xE [.ref wa, .int (nI i)] [(wa, .inr (7, [.int w_types, .ref wa1, .ref wa2, .ref wa3, .int w_funs, .ref wa4, .ref wa5, .ref wa6, .ref wa7, .int w_hasmem, .long w_first, .long w_most, .int w_globs, .ref wa8, .ref wa9, .ref wa10, .ref wa11, .ref ex, .ref co])), (wa1, .inl (cI, 20, .inl t1)), (wa4, .inl (cI, 30, .inl t4))] sz) (XQ G classes (va_A [(wa, .inr (7, [.int w_types, .ref wa1, .ref wa2, .ref wa3, .int w_funs, .ref wa4, .ref wa5, .ref wa6, .ref wa7, .int w_hasmem, .long w_first, .long w_most, .int w_globs, .ref wa8, .ref wa9, .ref wa10, .ref wa11, .ref ex, .ref co])), (wa1, .inl (cI, 20, .inl t1)), (wa4, .inl (cI, 30, .inl t4))] sz) (fun o w1 => o = .returned (some (.int (t1 ty))) ∧ w1 = [(wa, .inr (7, [.int w_types, .ref wa1, .ref wa2, .ref wa3, .int w_funs, .ref wa4, .ref wa5, .ref wa6, .ref wa7, .int w_hasmem, .long w_first, .long w_most, .int w_globs, .ref wa8, .ref wa9, .ref wa10, .ref wa11, .ref ex, .ref co])), (wa1, .inl (cI, 20, .inl t1)), (wa4, .inl (cI, 30, .inl t4))])) 0 0 (va_A [(wa, .inr (7, [.int w_types, .ref wa1, .ref wa2, .ref wa3, .int w_funs, .ref wa4, .ref wa5, .ref wa6, .ref wa7, .int w_hasmem, .long w_first, .long w_most, .int w_globs, .ref wa8, .ref wa9, .ref wa10, .ref wa11, .ref ex, .ref co])), (wa1, .inl (cI, 20, .inl t1)), (wa4, .inl (cI, 30, .inl t4))] sz) := by
  refine ex_ofW (cc := b_Wa_parameterCountOf) (maxL := 2) (ret := (some .int)) (by decide) rfl ?_
  intro p e s m args below meth c s₁ B hml hno hv
  obtain ⟨rfl, hsz, hP, hK, hD0, hE⟩ := hv
  have hx := B.exec
  have hb := B.bytes
  have hr := B.returns
  have hts : ∀ w ∈ lw_good, w.before _ s = true := fun w h => atoms_spec (ws := wx y_Wa_parameterCountOf b_Wa_parameterCountOf 2 (some .int)) B.pre w (List.mem_cons_of_mem _ h)
  have hown : s.vm.findClass R_Wa = some m.cls := findClass_of_methodNamed B.named
  have hlocks := B.notSynchronized
  have htr9 : e.platform.stackTraces = false := by rw [B.admits.platform]; exact htr
  subst hsz
  have hNS := xx_nostat hP
  have hD := hD0.self (sz := s.heap.size)
  generalize hAe : va_A [(wa, .inr (7, [.int w_types, .ref wa1, .ref wa2, .ref wa3, .int w_funs, .ref wa4, .ref wa5, .ref wa6, .ref wa7, .int w_hasmem, .long w_first, .long w_most, .int w_globs, .ref wa8, .ref wa9, .ref wa10, .ref wa11, .ref ex, .ref co])), (wa1, .inl (cI, 20, .inl t1)), (wa4, .inl (cI, 30, .inl t4))] s.heap.size = A at hD hE hNS ⊢
  have hA : ∀ q : Nat, s.heap.size ≤ q → A q := fun q h => by rw [← hAe]; exact Or.inr h
  have hS : va_S A s.heap s.heap [] := va_S.rf
  have hl := lv_entry ([.ref wa, .int (nI i)]) (n := 2) (Nat.le_of_ble_eq_true rfl)
  rw [lg_entry_eq]
  generalize (lg_sl ([.ref wa, .int (nI i)]) ++ List.replicate (2 - (lg_sl ([.ref wa, .int (nI i)])).length) Slot.unset).toArray = ls at hl ⊢
  have hl : lv_has ls 2 [(0, .ref wa), (1, .int (nI i))] := hl
  refine lv_aload_n hx hb d_Wa_parameterCountOf_0 rfl (lv_at hl 0 rfl) ?_
  refine va_get (D := G) (ci := 7) (v := .ref wa1) (C := R_Wa) (T := F_Wa) (N := 19) hx hb hts i_Wa hown hK hP 0 rfl rfl 1 (by decide) (hts _ m_317) (fun _ h9 => h9) rfl d_Wa_parameterCountOf_1 ?_
  refine lv_aload_n hx hb d_Wa_parameterCountOf_4 rfl (lv_at hl 0 rfl) ?_
  refine va_get (D := G) (ci := 7) (v := .ref wa4) (C := R_Wa) (T := F_Wa) (N := 19) hx hb hts i_Wa hown hK hP 0 rfl rfl 5 (by decide) (hts _ m_328) (fun _ h9 => h9) rfl d_Wa_parameterCountOf_5 ?_
  refine lv_iload_n hx hb d_Wa_parameterCountOf_8 rfl (lv_at hl 1 rfl) ?_
  refine va_iald hx hb hK hP 2 1 rfl rfl (vp_in_nI (show i < 30 by omega) (by decide)) d_Wa_parameterCountOf_9 ?_
  refine W.eq (g2 := F0 m 10 ls [.int (t4 i), .ref wa1]) (by rw [nI_clamp (show i < 2 ^ 31 by omega)] <;> rfl) ?_
  refine W.eq (g2 := F0 m 10 ls [.int (nI ty), .ref wa1]) (by rw [hft]) ?_
  refine va_iald hx hb hK hP 1 1 rfl rfl (vp_in_nI (show ty < 20 by omega) (by decide)) d_Wa_parameterCountOf_10 ?_
  refine W.eq (g2 := F0 m 11 ls [.int (t1 ty)]) (by rw [nI_clamp (show ty < 2 ^ 31 by omega)] <;> rfl) ?_
  exact ex_W (fun _ h => ex_mq h) (W.iret (v := t1 ty) hx hb hr (fun t ht hW => ⟨⟨_, ⟨rfl, rfl⟩, by rw [ht]; exact hP, hD⟩, hS.F ht⟩) hS.2.2 d_Wa_parameterCountOf_11)
set_option maxHeartbeats 8000000 in
set_option maxRecDepth 100000 in
theorem c_Wa_resultOf (l : Launch) (htr : l.stackTraces = false) (G : va_G) (cB cI cJ cZ : ClassId) (wa : Nat) (wa1 : Nat) (wa2 : Nat) (wa3 : Nat) (wa4 : Nat) (wa5 : Nat) (wa6 : Nat) (wa7 : Nat) (wa8 : Nat) (wa9 : Nat) (wa10 : Nat) (wa11 : Nat) (ex : Nat) (co : Nat) (w_types : Int32) (w_funs : Int32) (w_hasmem : Int32) (w_globs : Int32) (w_first : Int64) (w_most : Int64) (t1 : Nat → Int32) (t4 : Nat → Int32) (i : Nat) (ty : Nat) (hi : i < 30) (hty : ty < 20) (hft : t4 i = nI ty) (sz : Nat) : MetX l y_Wa_resultOf (wx y_Wa_resultOf b_Wa_resultOf 2 (some .int)) { frames := 0, cells := 0, slots := 0, locals := 0 } (XP G classes (xtys cB cI cJ cZ) xE [.ref wa, .int (nI i)] [(wa, .inr (7, [.int w_types, .ref wa1, .ref wa2, .ref wa3, .int w_funs, .ref wa4, .ref wa5, .ref wa6, .ref wa7, .int w_hasmem, .long w_first, .long w_most, .int w_globs, .ref wa8, .ref wa9, .ref wa10, .ref wa11, .ref ex, .ref co])), (wa3, .inl (cI, 20, .inl t1)), (wa4, .inl (cI, 30, .inl t4))] sz) (XQ G classes (va_A [(wa, .inr (7, [.int w_types, .ref wa1, .ref wa2, .ref wa3, .int w_funs, .ref wa4, .ref wa5, .ref wa6, .ref wa7, .int w_hasmem, .long w_first, .long w_most, .int w_globs, .ref wa8, .ref wa9, .ref wa10, .ref wa11, .ref ex, .ref co])), (wa3, .inl (cI, 20, .inl t1)), (wa4, .inl (cI, 30, .inl t4))] sz) (fun o w1 => o = .returned (some (.int (t1 ty))) ∧ w1 = [(wa, .inr (7, [.int w_types, .ref wa1, .ref wa2, .ref wa3, .int w_funs, .ref wa4, .ref wa5, .ref wa6, .ref wa7, .int w_hasmem, .long w_first, .long w_most, .int w_globs, .ref wa8, .ref wa9, .ref wa10, .ref wa11, .ref ex, .ref co])), (wa3, .inl (cI, 20, .inl t1)), (wa4, .inl (cI, 30, .inl t4))])) 0 0 (va_A [(wa, .inr (7, [.int w_types, .ref wa1, .ref wa2, .ref wa3, .int w_funs, .ref wa4, .ref wa5, .ref wa6, .ref wa7, .int w_hasmem, .long w_first, .long w_most, .int w_globs, .ref wa8, .ref wa9, .ref wa10, .ref wa11, .ref ex, .ref co])), (wa3, .inl (cI, 20, .inl t1)), (wa4, .inl (cI, 30, .inl t4))] sz) := by
  refine ex_ofW (cc := b_Wa_resultOf) (maxL := 2) (ret := (some .int)) (by decide) rfl ?_
  intro p e s m args below meth c s₁ B hml hno hv
  obtain ⟨rfl, hsz, hP, hK, hD0, hE⟩ := hv
  have hx := B.exec
  have hb := B.bytes
  have hr := B.returns
  have hts : ∀ w ∈ lw_good, w.before _ s = true := fun w h => atoms_spec (ws := wx y_Wa_resultOf b_Wa_resultOf 2 (some .int)) B.pre w (List.mem_cons_of_mem _ h)
  have hown : s.vm.findClass R_Wa = some m.cls := findClass_of_methodNamed B.named
  have hlocks := B.notSynchronized
  have htr9 : e.platform.stackTraces = false := by rw [B.admits.platform]; exact htr
  subst hsz
  have hNS := xx_nostat hP
  have hD := hD0.self (sz := s.heap.size)
  generalize hAe : va_A [(wa, .inr (7, [.int w_types, .ref wa1, .ref wa2, .ref wa3, .int w_funs, .ref wa4, .ref wa5, .ref wa6, .ref wa7, .int w_hasmem, .long w_first, .long w_most, .int w_globs, .ref wa8, .ref wa9, .ref wa10, .ref wa11, .ref ex, .ref co])), (wa3, .inl (cI, 20, .inl t1)), (wa4, .inl (cI, 30, .inl t4))] s.heap.size = A at hD hE hNS ⊢
  have hA : ∀ q : Nat, s.heap.size ≤ q → A q := fun q h => by rw [← hAe]; exact Or.inr h
  have hS : va_S A s.heap s.heap [] := va_S.rf
  have hl := lv_entry ([.ref wa, .int (nI i)]) (n := 2) (Nat.le_of_ble_eq_true rfl)
  rw [lg_entry_eq]
  generalize (lg_sl ([.ref wa, .int (nI i)]) ++ List.replicate (2 - (lg_sl ([.ref wa, .int (nI i)])).length) Slot.unset).toArray = ls at hl ⊢
  have hl : lv_has ls 2 [(0, .ref wa), (1, .int (nI i))] := hl
  refine lv_aload_n hx hb d_Wa_resultOf_0 rfl (lv_at hl 0 rfl) ?_
  refine va_get (D := G) (ci := 7) (v := .ref wa3) (C := R_Wa) (T := F_Wa) (N := 19) hx hb hts i_Wa hown hK hP 0 rfl rfl 3 (by decide) (hts _ m_321) (fun _ h9 => h9) rfl d_Wa_resultOf_1 ?_
  refine lv_aload_n hx hb d_Wa_resultOf_4 rfl (lv_at hl 0 rfl) ?_
  refine va_get (D := G) (ci := 7) (v := .ref wa4) (C := R_Wa) (T := F_Wa) (N := 19) hx hb hts i_Wa hown hK hP 0 rfl rfl 5 (by decide) (hts _ m_328) (fun _ h9 => h9) rfl d_Wa_resultOf_5 ?_
  refine lv_iload_n hx hb d_Wa_resultOf_8 rfl (lv_at hl 1 rfl) ?_
  refine va_iald hx hb hK hP 2 1 rfl rfl (vp_in_nI (show i < 30 by omega) (by decide)) d_Wa_resultOf_9 ?_
  refine W.eq (g2 := F0 m 10 ls [.int (t4 i), .ref wa3]) (by rw [nI_clamp (show i < 2 ^ 31 by omega)] <;> rfl) ?_
  refine W.eq (g2 := F0 m 10 ls [.int (nI ty), .ref wa3]) (by rw [hft]) ?_
  refine va_iald hx hb hK hP 1 1 rfl rfl (vp_in_nI (show ty < 20 by omega) (by decide)) d_Wa_resultOf_10 ?_
  refine W.eq (g2 := F0 m 11 ls [.int (t1 ty)]) (by rw [nI_clamp (show ty < 2 ^ 31 by omega)] <;> rfl) ?_
  exact ex_W (fun _ h => ex_mq h) (W.iret (v := t1 ty) hx hb hr (fun t ht hW => ⟨⟨_, ⟨rfl, rfl⟩, by rw [ht]; exact hP, hD⟩, hS.F ht⟩) hS.2.2 d_Wa_resultOf_11)
