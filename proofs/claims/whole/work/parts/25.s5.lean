abbrev b_Ex_isNamed : ByteArray := prog_6_method_4_code
def y_Ex_isNamed : MethodName := ⟨R_Ex, "isNamed", "(I[BII)Z"⟩
abbrev b_Ex_functionNamed : ByteArray := prog_6_method_2_code
def y_Ex_functionNamed : MethodName := ⟨R_Ex, "functionNamed", "([BI)I"⟩
abbrev b_Ex_haveDifferentNames : ByteArray := prog_6_method_3_code
def y_Ex_haveDifferentNames : MethodName := ⟨R_Ex, "haveDifferentNames", "()Z"⟩
theorem d_Ex_isNamed_0 : decode b_Ex_isNamed 0 = .ok (.aload_n 0, 1) := by decide +kernel
theorem d_Ex_isNamed_1 : decode b_Ex_isNamed 1 = .ok (.getfield 16, 3) := by decide +kernel
theorem d_Ex_isNamed_4 : decode b_Ex_isNamed 4 = .ok (.iload_n 1, 1) := by decide +kernel
theorem d_Ex_isNamed_5 : decode b_Ex_isNamed 5 = .ok (.iaload, 1) := by decide +kernel
theorem d_Ex_isNamed_6 : decode b_Ex_isNamed 6 = .ok (.iload 4, 2) := by decide +kernel
theorem d_Ex_isNamed_8 : decode b_Ex_isNamed 8 = .ok (.if_icmp .eq 5, 3) := by decide +kernel
theorem d_Ex_isNamed_11 : decode b_Ex_isNamed 11 = .ok (.iconst 0, 1) := by decide +kernel
theorem d_Ex_isNamed_12 : decode b_Ex_isNamed 12 = .ok (.ireturn, 1) := by decide +kernel
theorem d_Ex_isNamed_13 : decode b_Ex_isNamed 13 = .ok (.iconst 0, 1) := by decide +kernel
theorem d_Ex_isNamed_14 : decode b_Ex_isNamed 14 = .ok (.istore 5, 2) := by decide +kernel
theorem d_Ex_isNamed_16 : decode b_Ex_isNamed 16 = .ok (.iload 5, 2) := by decide +kernel
theorem d_Ex_isNamed_18 : decode b_Ex_isNamed 18 = .ok (.iload 4, 2) := by decide +kernel
theorem d_Ex_isNamed_20 : decode b_Ex_isNamed 20 = .ok (.if_icmp .ge 32, 3) := by decide +kernel
theorem d_Ex_isNamed_23 : decode b_Ex_isNamed 23 = .ok (.aload_n 0, 1) := by decide +kernel
theorem d_Ex_isNamed_24 : decode b_Ex_isNamed 24 = .ok (.getfield 19, 3) := by decide +kernel
theorem d_Ex_isNamed_27 : decode b_Ex_isNamed 27 = .ok (.iload_n 1, 1) := by decide +kernel
theorem d_Ex_isNamed_28 : decode b_Ex_isNamed 28 = .ok (.bipush 30, 2) := by decide +kernel
theorem d_Ex_isNamed_30 : decode b_Ex_isNamed 30 = .ok (.imul, 1) := by decide +kernel
theorem d_Ex_isNamed_31 : decode b_Ex_isNamed 31 = .ok (.iload 5, 2) := by decide +kernel
theorem d_Ex_isNamed_33 : decode b_Ex_isNamed 33 = .ok (.iadd, 1) := by decide +kernel
theorem d_Ex_isNamed_34 : decode b_Ex_isNamed 34 = .ok (.baload, 1) := by decide +kernel
theorem d_Ex_isNamed_35 : decode b_Ex_isNamed 35 = .ok (.aload_n 2, 1) := by decide +kernel
theorem d_Ex_isNamed_36 : decode b_Ex_isNamed 36 = .ok (.iload_n 3, 1) := by decide +kernel
theorem d_Ex_isNamed_37 : decode b_Ex_isNamed 37 = .ok (.iload 5, 2) := by decide +kernel
theorem d_Ex_isNamed_39 : decode b_Ex_isNamed 39 = .ok (.iadd, 1) := by decide +kernel
theorem d_Ex_isNamed_40 : decode b_Ex_isNamed 40 = .ok (.baload, 1) := by decide +kernel
theorem d_Ex_isNamed_41 : decode b_Ex_isNamed 41 = .ok (.if_icmp .eq 5, 3) := by decide +kernel
theorem d_Ex_isNamed_44 : decode b_Ex_isNamed 44 = .ok (.iconst 0, 1) := by decide +kernel
theorem d_Ex_isNamed_45 : decode b_Ex_isNamed 45 = .ok (.ireturn, 1) := by decide +kernel
theorem d_Ex_isNamed_46 : decode b_Ex_isNamed 46 = .ok (.iinc 5 1, 3) := by decide +kernel
theorem d_Ex_isNamed_49 : decode b_Ex_isNamed 49 = .ok (.goto (-33), 3) := by decide +kernel
theorem d_Ex_isNamed_52 : decode b_Ex_isNamed 52 = .ok (.iconst 1, 1) := by decide +kernel
theorem d_Ex_isNamed_53 : decode b_Ex_isNamed 53 = .ok (.ireturn, 1) := by decide +kernel
theorem d_Ex_functionNamed_0 : decode b_Ex_functionNamed 0 = .ok (.iconst 0, 1) := by decide +kernel
theorem d_Ex_functionNamed_1 : decode b_Ex_functionNamed 1 = .ok (.istore_n 3, 1) := by decide +kernel
theorem d_Ex_functionNamed_2 : decode b_Ex_functionNamed 2 = .ok (.iload_n 3, 1) := by decide +kernel
theorem d_Ex_functionNamed_3 : decode b_Ex_functionNamed 3 = .ok (.aload_n 0, 1) := by decide +kernel
theorem d_Ex_functionNamed_4 : decode b_Ex_functionNamed 4 = .ok (.getfield 23, 3) := by decide +kernel
theorem d_Ex_functionNamed_7 : decode b_Ex_functionNamed 7 = .ok (.if_icmp .ge 36, 3) := by decide +kernel
theorem d_Ex_functionNamed_10 : decode b_Ex_functionNamed 10 = .ok (.aload_n 0, 1) := by decide +kernel
theorem d_Ex_functionNamed_11 : decode b_Ex_functionNamed 11 = .ok (.getfield 9, 3) := by decide +kernel
theorem d_Ex_functionNamed_14 : decode b_Ex_functionNamed 14 = .ok (.iload_n 3, 1) := by decide +kernel
theorem d_Ex_functionNamed_15 : decode b_Ex_functionNamed 15 = .ok (.iaload, 1) := by decide +kernel
theorem d_Ex_functionNamed_16 : decode b_Ex_functionNamed 16 = .ok (.ifCond .ne 21, 3) := by decide +kernel
theorem d_Ex_functionNamed_19 : decode b_Ex_functionNamed 19 = .ok (.aload_n 0, 1) := by decide +kernel
theorem d_Ex_functionNamed_20 : decode b_Ex_functionNamed 20 = .ok (.iload_n 3, 1) := by decide +kernel
theorem d_Ex_functionNamed_21 : decode b_Ex_functionNamed 21 = .ok (.aload_n 1, 1) := by decide +kernel
theorem d_Ex_functionNamed_22 : decode b_Ex_functionNamed 22 = .ok (.iconst 0, 1) := by decide +kernel
theorem d_Ex_functionNamed_23 : decode b_Ex_functionNamed 23 = .ok (.iload_n 2, 1) := by decide +kernel
theorem d_Ex_functionNamed_24 : decode b_Ex_functionNamed 24 = .ok (.invokevirtual 27, 3) := by decide +kernel
theorem d_Ex_functionNamed_27 : decode b_Ex_functionNamed 27 = .ok (.ifCond .eq 10, 3) := by decide +kernel
theorem d_Ex_functionNamed_30 : decode b_Ex_functionNamed 30 = .ok (.aload_n 0, 1) := by decide +kernel
theorem d_Ex_functionNamed_31 : decode b_Ex_functionNamed 31 = .ok (.getfield 13, 3) := by decide +kernel
theorem d_Ex_functionNamed_34 : decode b_Ex_functionNamed 34 = .ok (.iload_n 3, 1) := by decide +kernel
theorem d_Ex_functionNamed_35 : decode b_Ex_functionNamed 35 = .ok (.iaload, 1) := by decide +kernel
theorem d_Ex_functionNamed_36 : decode b_Ex_functionNamed 36 = .ok (.ireturn, 1) := by decide +kernel
theorem d_Ex_functionNamed_37 : decode b_Ex_functionNamed 37 = .ok (.iinc 3 1, 3) := by decide +kernel
theorem d_Ex_functionNamed_40 : decode b_Ex_functionNamed 40 = .ok (.goto (-38), 3) := by decide +kernel
theorem d_Ex_functionNamed_43 : decode b_Ex_functionNamed 43 = .ok (.iconst (-1), 1) := by decide +kernel
theorem d_Ex_functionNamed_44 : decode b_Ex_functionNamed 44 = .ok (.ireturn, 1) := by decide +kernel
theorem d_Ex_haveDifferentNames_0 : decode b_Ex_haveDifferentNames 0 = .ok (.iconst 0, 1) := by decide +kernel
theorem d_Ex_haveDifferentNames_1 : decode b_Ex_haveDifferentNames 1 = .ok (.istore_n 1, 1) := by decide +kernel
theorem d_Ex_haveDifferentNames_2 : decode b_Ex_haveDifferentNames 2 = .ok (.iload_n 1, 1) := by decide +kernel
theorem d_Ex_haveDifferentNames_3 : decode b_Ex_haveDifferentNames 3 = .ok (.aload_n 0, 1) := by decide +kernel
theorem d_Ex_haveDifferentNames_4 : decode b_Ex_haveDifferentNames 4 = .ok (.getfield 23, 3) := by decide +kernel
theorem d_Ex_haveDifferentNames_7 : decode b_Ex_haveDifferentNames 7 = .ok (.if_icmp .ge 46, 3) := by decide +kernel
theorem d_Ex_haveDifferentNames_10 : decode b_Ex_haveDifferentNames 10 = .ok (.iconst 0, 1) := by decide +kernel
theorem d_Ex_haveDifferentNames_11 : decode b_Ex_haveDifferentNames 11 = .ok (.istore_n 2, 1) := by decide +kernel
theorem d_Ex_haveDifferentNames_12 : decode b_Ex_haveDifferentNames 12 = .ok (.iload_n 2, 1) := by decide +kernel
theorem d_Ex_haveDifferentNames_13 : decode b_Ex_haveDifferentNames 13 = .ok (.iload_n 1, 1) := by decide +kernel
theorem d_Ex_haveDifferentNames_14 : decode b_Ex_haveDifferentNames 14 = .ok (.if_icmp .ge 33, 3) := by decide +kernel
theorem d_Ex_haveDifferentNames_17 : decode b_Ex_haveDifferentNames 17 = .ok (.aload_n 0, 1) := by decide +kernel
theorem d_Ex_haveDifferentNames_18 : decode b_Ex_haveDifferentNames 18 = .ok (.iload_n 1, 1) := by decide +kernel
theorem d_Ex_haveDifferentNames_19 : decode b_Ex_haveDifferentNames 19 = .ok (.aload_n 0, 1) := by decide +kernel
theorem d_Ex_haveDifferentNames_20 : decode b_Ex_haveDifferentNames 20 = .ok (.getfield 19, 3) := by decide +kernel
theorem d_Ex_haveDifferentNames_23 : decode b_Ex_haveDifferentNames 23 = .ok (.iload_n 2, 1) := by decide +kernel
theorem d_Ex_haveDifferentNames_24 : decode b_Ex_haveDifferentNames 24 = .ok (.bipush 30, 2) := by decide +kernel
theorem d_Ex_haveDifferentNames_26 : decode b_Ex_haveDifferentNames 26 = .ok (.imul, 1) := by decide +kernel
theorem d_Ex_haveDifferentNames_27 : decode b_Ex_haveDifferentNames 27 = .ok (.aload_n 0, 1) := by decide +kernel
theorem d_Ex_haveDifferentNames_28 : decode b_Ex_haveDifferentNames 28 = .ok (.getfield 16, 3) := by decide +kernel
theorem d_Ex_haveDifferentNames_31 : decode b_Ex_haveDifferentNames 31 = .ok (.iload_n 2, 1) := by decide +kernel
theorem d_Ex_haveDifferentNames_32 : decode b_Ex_haveDifferentNames 32 = .ok (.iaload, 1) := by decide +kernel
theorem d_Ex_haveDifferentNames_33 : decode b_Ex_haveDifferentNames 33 = .ok (.invokevirtual 27, 3) := by decide +kernel
theorem d_Ex_haveDifferentNames_36 : decode b_Ex_haveDifferentNames 36 = .ok (.ifCond .eq 5, 3) := by decide +kernel
theorem d_Ex_haveDifferentNames_39 : decode b_Ex_haveDifferentNames 39 = .ok (.iconst 0, 1) := by decide +kernel
theorem d_Ex_haveDifferentNames_40 : decode b_Ex_haveDifferentNames 40 = .ok (.ireturn, 1) := by decide +kernel
theorem d_Ex_haveDifferentNames_41 : decode b_Ex_haveDifferentNames 41 = .ok (.iinc 2 1, 3) := by decide +kernel
theorem d_Ex_haveDifferentNames_44 : decode b_Ex_haveDifferentNames 44 = .ok (.goto (-32), 3) := by decide +kernel
theorem d_Ex_haveDifferentNames_47 : decode b_Ex_haveDifferentNames 47 = .ok (.iinc 1 1, 3) := by decide +kernel
theorem d_Ex_haveDifferentNames_50 : decode b_Ex_haveDifferentNames 50 = .ok (.goto (-48), 3) := by decide +kernel
theorem d_Ex_haveDifferentNames_53 : decode b_Ex_haveDifferentNames 53 = .ok (.iconst 1, 1) := by decide +kernel
theorem d_Ex_haveDifferentNames_54 : decode b_Ex_haveDifferentNames 54 = .ok (.ireturn, 1) := by decide +kernel
theorem m_225 : Cond.fieldLink R_Ex 23 "WaferRunner$Exports" "size" "I" ∈ lw_good := lw_in (List.mem_append_right _ (List.mem_of_getElem? (i := 225) (by decide +kernel))) (by decide +kernel)
theorem m_460 : Cond.methodLink R_Ex 27 y_Ex_isNamed ∈ lw_good := lw_in (List.mem_append_right _ (List.mem_of_getElem? (i := 460) (by decide +kernel))) (by decide +kernel)
theorem m_462 : Cond.instanceMethod y_Ex_isNamed ∈ lw_good := lw_in (List.mem_append_right _ (List.mem_of_getElem? (i := 462) (by decide +kernel))) (by decide +kernel)
theorem ms_Ex_isNamed : Cond.selects R_Ex y_Ex_isNamed y_Ex_isNamed ∈ lw_good := lw_in (by decide +kernel) (by decide +kernel)
theorem m_463 : Cond.code y_Ex_isNamed b_Ex_isNamed 6 (some .boolean) ∈ lw_good := lw_in (List.mem_append_right _ (List.mem_of_getElem? (i := 463) (by decide +kernel))) (by decide +kernel)
set_option maxHeartbeats 8000000 in
set_option maxRecDepth 100000 in
theorem k_Ex_isNamedT (l : Launch) (htr : l.stackTraces = false) (G : va_G) (cB cI cJ cZ cG : ClassId) (aTp : Nat) (aEx : Nat) (aEx_kinds : Nat) (aEx_indices : Nat) (aEx_nameLengths : Nat) (aEx_names : Nat) (zSo : KSo) (zEx : KEx) (hzSo : KSo.Ok zSo) (hzEx : KEx.Ok zEx) (v_x : Int) (v_start : Int) (v_length : Int) (hv_x : R32 v_x) (hv_start : R32 v_start) (hv_length : R32 v_length) (fu : Nat) (R9 : Out Empty (Bool)) (hf : f_Ex_isNamedT fu zSo zEx v_x v_start v_length = R9) (hnb : R9 ≠ .bad) (sz : Nat) : MetX l y_Ex_isNamed (wx y_Ex_isNamed b_Ex_isNamed 6 (some .boolean)) { frames := 0, cells := 0, slots := 0, locals := 0 } (XP G classes (xtys cB cI cJ cZ cG) xE [.ref aEx, .int (iI v_x), .ref aTp, .int (iI v_start), .int (iI v_length)] [(aTp, .inl (cB, 2000, .inl zSo.bytes)), (aEx, .inr (8, [.int (iI zEx.size), .ref aEx_kinds, .ref aEx_indices, .ref aEx_nameLengths, .ref aEx_names])), (aEx_nameLengths, .inl (cI, 40, .inl (fun k9 => iI (zEx.nameLengths k9)))), (aEx_names, .inl (cB, 1200, .inl zEx.names))] sz) (XQ G classes (va_A [(aTp, .inl (cB, 2000, .inl zSo.bytes)), (aEx, .inr (8, [.int (iI zEx.size), .ref aEx_kinds, .ref aEx_indices, .ref aEx_nameLengths, .ref aEx_names])), (aEx_nameLengths, .inl (cI, 40, .inl (fun k9 => iI (zEx.nameLengths k9)))), (aEx_names, .inl (cB, 1200, .inl zEx.names))] sz) (fun o w1 => ozp R9 (fun x9 => (True) ∧ o = .returned (some (.int (bI x9))) ∧ w1 = [(aTp, .inl (cB, 2000, .inl zSo.bytes)), (aEx, .inr (8, [.int (iI zEx.size), .ref aEx_kinds, .ref aEx_indices, .ref aEx_nameLengths, .ref aEx_names])), (aEx_nameLengths, .inl (cI, 40, .inl (fun k9 => iI (zEx.nameLengths k9)))), (aEx_names, .inl (cB, 1200, .inl zEx.names))]) (fun _ => False))) 0 0 (va_A [(aTp, .inl (cB, 2000, .inl zSo.bytes)), (aEx, .inr (8, [.int (iI zEx.size), .ref aEx_kinds, .ref aEx_indices, .ref aEx_nameLengths, .ref aEx_names])), (aEx_nameLengths, .inl (cI, 40, .inl (fun k9 => iI (zEx.nameLengths k9)))), (aEx_names, .inl (cB, 1200, .inl zEx.names))] sz) := by
  refine ex_ofW (cc := b_Ex_isNamed) (maxL := 6) (ret := (some .boolean)) (by decide) rfl ?_
  intro p e s m args below meth c s₁ B hml hno hv
  obtain ⟨rfl, hsz, hP, hK, hD0, hE⟩ := hv
  have hx := B.exec
  have hb := B.bytes
  have hr := B.returns
  have hts : ∀ w ∈ lw_good, w.before _ s = true := fun w h => atoms_spec (ws := wx y_Ex_isNamed b_Ex_isNamed 6 (some .boolean)) B.pre w (List.mem_cons_of_mem _ h)
  have hown : s.vm.findClass R_Ex = some m.cls := findClass_of_methodNamed B.named
  have hlocks := B.notSynchronized
  subst hsz
  have hNS := xx_nostat hP
  have hD := hD0.self (sz := s.heap.size)
  generalize hAe : va_A [(aTp, .inl (cB, 2000, .inl zSo.bytes)), (aEx, .inr (8, [.int (iI zEx.size), .ref aEx_kinds, .ref aEx_indices, .ref aEx_nameLengths, .ref aEx_names])), (aEx_nameLengths, .inl (cI, 40, .inl (fun k9 => iI (zEx.nameLengths k9)))), (aEx_names, .inl (cB, 1200, .inl zEx.names))] s.heap.size = A at hD hE hNS ⊢
  have hA : ∀ q : Nat, s.heap.size ≤ q → A q := fun q h => by rw [← hAe]; exact Or.inr h
  have hS : va_S A s.heap s.heap [] := va_S.rf
  have hl := lv_entry ([.ref aEx, .int (iI v_x), .ref aTp, .int (iI v_start), .int (iI v_length)]) (n := 6) (Nat.le_of_ble_eq_true rfl)
  rw [lg_entry_eq]
  generalize (lg_sl ([.ref aEx, .int (iI v_x), .ref aTp, .int (iI v_start), .int (iI v_length)]) ++ List.replicate (6 - (lg_sl ([.ref aEx, .int (iI v_x), .ref aTp, .int (iI v_start), .int (iI v_length)])).length) Slot.unset).toArray = ls at hl ⊢
  have hl : lv_has ls 6 [(0, .ref aEx), (1, .int (iI v_x)), (2, .ref aTp), (3, .int (iI v_start)), (4, .int (iI v_length))] := hl
  unfold f_Ex_isNamedT at hf
  refine lv_aload_n hx hb d_Ex_isNamed_0 rfl (lv_at hl 0 rfl) ?_
  refine va_get (D := G) (ci := 8) (v := .ref aEx_nameLengths) (C := R_Ex) (T := F_Ex) (N := 5) hx hb hts i_Ex hown hK hP 1 rfl rfl 3 (by decide) (hts _ m_235) (fun _ h9 => h9) rfl d_Ex_isNamed_1 ?_
  refine lv_iload_n hx hb d_Ex_isNamed_4 rfl (lv_at hl 1 rfl) ?_
  replace hf := grd hnb hf
  obtain ⟨g_1, hf⟩ := hf
  refine va_iald hx hb hK hP 2 1 rfl rfl (vp_in_iI hv_x g_1) d_Ex_isNamed_5 ?_
  refine W.eq (g2 := F0 m 6 ls [.int (iI (zEx.nameLengths v_x.toNat))]) (by rw [iI_clamp hv_x] <;> rfl) ?_
  refine lv_iload hx hb d_Ex_isNamed_6 (lv_at hl 4 rfl) ?_
  refine lv_icmp_eq (tgt := 13) hx hb d_Ex_isNamed_8 (by decide) (fun c_2 => ?_) (fun c_2 => ?_)
  · have c_2 := ((zv_eq (iI_t (hzEx.nameLengths _)) (iI_t hv_length))).mp c_2
    replace hf := ifp c_2 hf
    refine lv_iconst (v := iI 0) hx hb d_Ex_isNamed_13 (by decide) ?_
    refine lv_istore (lv' := [(5, .int (iI 0)), (0, .ref aEx), (1, .int (iI v_x)), (2, .ref aTp), (3, .int (iI v_start)), (4, .int (iI v_length))]) hx hb d_Ex_isNamed_14 hl (by decide) rfl (fun ls hl => ?_)
    have loop_16 : ∀ (n_3 : Nat) (w_k_5 : Int), R32 w_k_5 → L16_Ex_isNamedT fu zSo zEx v_x v_start v_length n_3 w_k_5 = R9 → ∀ (H : Heap) (locs : List Loc), va_P G classes [(aTp, .inl (cB, 2000, .inl zSo.bytes)), (aEx, .inr (8, [.int (iI zEx.size), .ref aEx_kinds, .ref aEx_indices, .ref aEx_nameLengths, .ref aEx_names])), (aEx_nameLengths, .inl (cI, 40, .inl (fun k9 => iI (zEx.nameLengths k9)))), (aEx_names, .inl (cB, 1200, .inl zEx.names))] H → va_D A [(aTp, .inl (cB, 2000, .inl zSo.bytes)), (aEx, .inr (8, [.int (iI zEx.size), .ref aEx_kinds, .ref aEx_indices, .ref aEx_nameLengths, .ref aEx_names])), (aEx_nameLengths, .inl (cI, 40, .inl (fun k9 => iI (zEx.nameLengths k9)))), (aEx_names, .inl (cB, 1200, .inl zEx.names))] → va_S A s.heap H locs → ∀ (ls : Array Slot), lv_has ls 6 [(0, .ref aEx), (1, .int (iI v_x)), (2, .ref aTp), (3, .int (iI v_start)), (4, .int (iI v_length)), (5, .int (iI w_k_5))] → W p l e (headSpec (wx y_Ex_isNamed b_Ex_isNamed 6 (some .boolean)) { frames := 0, cells := 0, slots := 0, locals := 0 }).room s m ([.ref aEx, .int (iI v_x), .ref aTp, .int (iI v_start), .int (iI v_length)] : List Value).toArray below meth c H locs 0 0 (MX below (XQ G classes A (fun o w1 => ozp R9 (fun x9 => (True) ∧ o = .returned (some (.int (bI x9))) ∧ w1 = [(aTp, .inl (cB, 2000, .inl zSo.bytes)), (aEx, .inr (8, [.int (iI zEx.size), .ref aEx_kinds, .ref aEx_indices, .ref aEx_nameLengths, .ref aEx_names])), (aEx_nameLengths, .inl (cI, 40, .inl (fun k9 => iI (zEx.nameLengths k9)))), (aEx_names, .inl (cB, 1200, .inl zEx.names))]) (fun _ => False))) ([.ref aEx, .int (iI v_x), .ref aTp, .int (iI v_start), .int (iI v_length)] : List Value).toArray s 0 0 A) (F0 m 16 ls []) := by
      intro n_3
      induction n_3 with
      | zero => intro w_k_5  hw_k_5 hf; exact absurd hf.symm hnb
      | succ n_3 ih_16 =>
        intro w_k_5  hw_k_5 hf H_1 locs_1 hP_1 hD_1 hS_1 ls hl
        clear hS hD hP
        rw [L16_Ex_isNamedT.eq_2] at hf
        refine lv_iload hx hb d_Ex_isNamed_16 (lv_at hl 5 rfl) ?_
        refine lv_iload hx hb d_Ex_isNamed_18 (lv_at hl 4 rfl) ?_
        refine lv_icmp_ge (tgt := 52) hx hb d_Ex_isNamed_20 (by decide) (fun c_6 => ?_) (fun c_6 => ?_)
        · have c_6 := ((zv_le (iI_t hv_length) (iI_t hw_k_5))).mp c_6
          replace hf := ifp c_6 hf
          refine lv_iconst (v := iI 1) hx hb d_Ex_isNamed_52 (by decide) ?_
          refine W.eq (g2 := F0 m 53 ls [.int (bI true)]) (by rfl) ?_
          exact ex_W (fun _ h => ex_mq h) (W.zret (v := bI true) hx hb hr (bI_nar _) (fun t ht hW => ⟨⟨_, ozr hf ⟨trivial, rfl, rfl⟩, by rw [ht]; exact hP_1, hD_1⟩, hS_1.F ht⟩) hS_1.2.2 d_Ex_isNamed_53)
        · have c_6 := (fun q9 => c_6 (((zv_le (iI_t hv_length) (iI_t hw_k_5))).mpr q9))
          replace hf := ifn c_6 hf
          refine lv_aload_n hx hb d_Ex_isNamed_23 rfl (lv_at hl 0 rfl) ?_
          refine va_get (D := G) (ci := 8) (v := .ref aEx_names) (C := R_Ex) (T := F_Ex) (N := 5) hx hb hts i_Ex hown hK hP_1 1 rfl rfl 4 (by decide) (hts _ m_237) (fun _ h9 => h9) rfl d_Ex_isNamed_24 ?_
          refine lv_iload_n hx hb d_Ex_isNamed_27 rfl (lv_at hl 1 rfl) ?_
          refine lv_bipush (v := iI 30) hx hb d_Ex_isNamed_28 (by decide) ?_
          refine lv_imul hx hb d_Ex_isNamed_30 ?_
          refine lv_topi (fun x9 e9 => ?_)
          obtain rfl : x9 = iI (v_x * 30) := e9.trans (iI_mul _ _)
          replace hf := grd hnb hf
          obtain ⟨g_7, hf⟩ := hf
          refine lv_iload hx hb d_Ex_isNamed_31 (lv_at hl 5 rfl) ?_
          refine lv_iadd hx hb d_Ex_isNamed_33 ?_
          refine lv_topi (fun x9 e9 => ?_)
          obtain rfl : x9 = iI ((v_x * 30) + w_k_5) := e9.trans (iI_add _ _)
          replace hf := grd hnb hf
          obtain ⟨g_8, hf⟩ := hf
          replace hf := grd hnb hf
          obtain ⟨g_9, hf⟩ := hf
          refine va_bald hx hb hK hP_1 3 0 rfl rfl (vp_in_iI g_8 g_9) d_Ex_isNamed_34 ?_
          refine W.eq (g2 := F0 m 35 ls [.int (zEx.names ((v_x * 30) + w_k_5).toNat)]) (by rw [iI_clamp g_8] <;> rfl) ?_
          refine lv_aload_n hx hb d_Ex_isNamed_35 rfl (lv_at hl 2 rfl) ?_
          refine lv_iload_n hx hb d_Ex_isNamed_36 rfl (lv_at hl 3 rfl) ?_
          refine lv_iload hx hb d_Ex_isNamed_37 (lv_at hl 5 rfl) ?_
          refine lv_iadd hx hb d_Ex_isNamed_39 ?_
          refine lv_topi (fun x9 e9 => ?_)
          obtain rfl : x9 = iI (v_start + w_k_5) := e9.trans (iI_add _ _)
          replace hf := grd hnb hf
          obtain ⟨g_10, hf⟩ := hf
          replace hf := grd hnb hf
          obtain ⟨g_11, hf⟩ := hf
          refine va_bald hx hb hK hP_1 0 0 rfl rfl (vp_in_iI g_10 g_11) d_Ex_isNamed_40 ?_
          refine W.eq (g2 := F0 m 41 ls [.int (zSo.bytes (v_start + w_k_5).toNat), .int (zEx.names ((v_x * 30) + w_k_5).toNat)]) (by rw [iI_clamp g_10] <;> rfl) ?_
          refine lv_icmp_eq (tgt := 46) hx hb d_Ex_isNamed_41 (by decide) (fun c_12 => ?_) (fun c_12 => ?_)
          · have c_12 := ((zv_eq rfl rfl)).mp c_12
            replace hf := ifp c_12 hf
            replace hf := grd hnb hf
            obtain ⟨g_13, hf⟩ := hf
            refine lv_iinc (v := iI (w_k_5 + 1)) (lv' := [(5, .int (iI (w_k_5 + 1))), (0, .ref aEx), (1, .int (iI v_x)), (2, .ref aTp), (3, .int (iI v_start)), (4, .int (iI v_length))]) hx hb d_Ex_isNamed_46 hl (k := 5) rfl (iI_add _ 1) (by decide) rfl (fun ls hl => ?_)
            refine lv_goto (tgt := 16) hx hb d_Ex_isNamed_49 (by decide) ?_
            exact ih_16 (w_k_5 + 1) g_13 hf _ _ hP_1 hD_1 hS_1 _ (lv_sub hl [1, 2, 3, 4, 5, 0] rfl)
          · have c_12 := (fun q9 => c_12 (((zv_eq rfl rfl)).mpr q9))
            replace hf := ifn c_12 hf
            refine lv_iconst (v := iI 0) hx hb d_Ex_isNamed_44 (by decide) ?_
            refine W.eq (g2 := F0 m 45 ls [.int (bI false)]) (by rfl) ?_
            exact ex_W (fun _ h => ex_mq h) (W.zret (v := bI false) hx hb hr (bI_nar _) (fun t ht hW => ⟨⟨_, ozr hf ⟨trivial, rfl, rfl⟩, by rw [ht]; exact hP_1, hD_1⟩, hS_1.F ht⟩) hS_1.2.2 d_Ex_isNamed_45)
    exact loop_16 fu 0 (show R32 (0) by decide) hf _ _ hP hD hS _ (lv_sub hl [1, 2, 3, 4, 5, 0] rfl)
  · have c_2 := (fun q9 => c_2 (((zv_eq (iI_t (hzEx.nameLengths _)) (iI_t hv_length))).mpr q9))
    replace hf := ifn c_2 hf
    refine lv_iconst (v := iI 0) hx hb d_Ex_isNamed_11 (by decide) ?_
    refine W.eq (g2 := F0 m 12 ls [.int (bI false)]) (by rfl) ?_
    exact ex_W (fun _ h => ex_mq h) (W.zret (v := bI false) hx hb hr (bI_nar _) (fun t ht hW => ⟨⟨_, ozr hf ⟨trivial, rfl, rfl⟩, by rw [ht]; exact hP, hD⟩, hS.F ht⟩) hS.2.2 d_Ex_isNamed_12)
set_option maxHeartbeats 8000000 in
set_option maxRecDepth 100000 in
theorem k_Ex_isNamedN (l : Launch) (htr : l.stackTraces = false) (G : va_G) (cB cI cJ cZ cG : ClassId) (aEx : Nat) (aEx_kinds : Nat) (aEx_indices : Nat) (aEx_nameLengths : Nat) (aEx_names : Nat) (zEx : KEx) (hzEx : KEx.Ok zEx) (v_x : Int) (v_start : Int) (v_length : Int) (hv_x : R32 v_x) (hv_start : R32 v_start) (hv_length : R32 v_length) (fu : Nat) (R9 : Out Empty (Bool)) (hf : f_Ex_isNamedN fu zEx v_x v_start v_length = R9) (hnb : R9 ≠ .bad) (sz : Nat) : MetX l y_Ex_isNamed (wx y_Ex_isNamed b_Ex_isNamed 6 (some .boolean)) { frames := 0, cells := 0, slots := 0, locals := 0 } (XP G classes (xtys cB cI cJ cZ cG) xE [.ref aEx, .int (iI v_x), .ref aEx_names, .int (iI v_start), .int (iI v_length)] [(aEx, .inr (8, [.int (iI zEx.size), .ref aEx_kinds, .ref aEx_indices, .ref aEx_nameLengths, .ref aEx_names])), (aEx_nameLengths, .inl (cI, 40, .inl (fun k9 => iI (zEx.nameLengths k9)))), (aEx_names, .inl (cB, 1200, .inl zEx.names))] sz) (XQ G classes (va_A [(aEx, .inr (8, [.int (iI zEx.size), .ref aEx_kinds, .ref aEx_indices, .ref aEx_nameLengths, .ref aEx_names])), (aEx_nameLengths, .inl (cI, 40, .inl (fun k9 => iI (zEx.nameLengths k9)))), (aEx_names, .inl (cB, 1200, .inl zEx.names))] sz) (fun o w1 => ozp R9 (fun x9 => (True) ∧ o = .returned (some (.int (bI x9))) ∧ w1 = [(aEx, .inr (8, [.int (iI zEx.size), .ref aEx_kinds, .ref aEx_indices, .ref aEx_nameLengths, .ref aEx_names])), (aEx_nameLengths, .inl (cI, 40, .inl (fun k9 => iI (zEx.nameLengths k9)))), (aEx_names, .inl (cB, 1200, .inl zEx.names))]) (fun _ => False))) 0 0 (va_A [(aEx, .inr (8, [.int (iI zEx.size), .ref aEx_kinds, .ref aEx_indices, .ref aEx_nameLengths, .ref aEx_names])), (aEx_nameLengths, .inl (cI, 40, .inl (fun k9 => iI (zEx.nameLengths k9)))), (aEx_names, .inl (cB, 1200, .inl zEx.names))] sz) := by
  refine ex_ofW (cc := b_Ex_isNamed) (maxL := 6) (ret := (some .boolean)) (by decide) rfl ?_
  intro p e s m args below meth c s₁ B hml hno hv
  obtain ⟨rfl, hsz, hP, hK, hD0, hE⟩ := hv
  have hx := B.exec
  have hb := B.bytes
  have hr := B.returns
  have hts : ∀ w ∈ lw_good, w.before _ s = true := fun w h => atoms_spec (ws := wx y_Ex_isNamed b_Ex_isNamed 6 (some .boolean)) B.pre w (List.mem_cons_of_mem _ h)
  have hown : s.vm.findClass R_Ex = some m.cls := findClass_of_methodNamed B.named
  have hlocks := B.notSynchronized
  subst hsz
  have hNS := xx_nostat hP
  have hD := hD0.self (sz := s.heap.size)
  generalize hAe : va_A [(aEx, .inr (8, [.int (iI zEx.size), .ref aEx_kinds, .ref aEx_indices, .ref aEx_nameLengths, .ref aEx_names])), (aEx_nameLengths, .inl (cI, 40, .inl (fun k9 => iI (zEx.nameLengths k9)))), (aEx_names, .inl (cB, 1200, .inl zEx.names))] s.heap.size = A at hD hE hNS ⊢
  have hA : ∀ q : Nat, s.heap.size ≤ q → A q := fun q h => by rw [← hAe]; exact Or.inr h
  have hS : va_S A s.heap s.heap [] := va_S.rf
  have hl := lv_entry ([.ref aEx, .int (iI v_x), .ref aEx_names, .int (iI v_start), .int (iI v_length)]) (n := 6) (Nat.le_of_ble_eq_true rfl)
  rw [lg_entry_eq]
  generalize (lg_sl ([.ref aEx, .int (iI v_x), .ref aEx_names, .int (iI v_start), .int (iI v_length)]) ++ List.replicate (6 - (lg_sl ([.ref aEx, .int (iI v_x), .ref aEx_names, .int (iI v_start), .int (iI v_length)])).length) Slot.unset).toArray = ls at hl ⊢
  have hl : lv_has ls 6 [(0, .ref aEx), (1, .int (iI v_x)), (2, .ref aEx_names), (3, .int (iI v_start)), (4, .int (iI v_length))] := hl
  unfold f_Ex_isNamedN at hf
  refine lv_aload_n hx hb d_Ex_isNamed_0 rfl (lv_at hl 0 rfl) ?_
  refine va_get (D := G) (ci := 8) (v := .ref aEx_nameLengths) (C := R_Ex) (T := F_Ex) (N := 5) hx hb hts i_Ex hown hK hP 0 rfl rfl 3 (by decide) (hts _ m_235) (fun _ h9 => h9) rfl d_Ex_isNamed_1 ?_
  refine lv_iload_n hx hb d_Ex_isNamed_4 rfl (lv_at hl 1 rfl) ?_
  replace hf := grd hnb hf
  obtain ⟨g_1, hf⟩ := hf
  refine va_iald hx hb hK hP 1 1 rfl rfl (vp_in_iI hv_x g_1) d_Ex_isNamed_5 ?_
  refine W.eq (g2 := F0 m 6 ls [.int (iI (zEx.nameLengths v_x.toNat))]) (by rw [iI_clamp hv_x] <;> rfl) ?_
  refine lv_iload hx hb d_Ex_isNamed_6 (lv_at hl 4 rfl) ?_
  refine lv_icmp_eq (tgt := 13) hx hb d_Ex_isNamed_8 (by decide) (fun c_2 => ?_) (fun c_2 => ?_)
  · have c_2 := ((zv_eq (iI_t (hzEx.nameLengths _)) (iI_t hv_length))).mp c_2
    replace hf := ifp c_2 hf
    refine lv_iconst (v := iI 0) hx hb d_Ex_isNamed_13 (by decide) ?_
    refine lv_istore (lv' := [(5, .int (iI 0)), (0, .ref aEx), (1, .int (iI v_x)), (2, .ref aEx_names), (3, .int (iI v_start)), (4, .int (iI v_length))]) hx hb d_Ex_isNamed_14 hl (by decide) rfl (fun ls hl => ?_)
    have loop_16 : ∀ (n_3 : Nat) (w_k_5 : Int), R32 w_k_5 → L16_Ex_isNamedN fu zEx v_x v_start v_length n_3 w_k_5 = R9 → ∀ (H : Heap) (locs : List Loc), va_P G classes [(aEx, .inr (8, [.int (iI zEx.size), .ref aEx_kinds, .ref aEx_indices, .ref aEx_nameLengths, .ref aEx_names])), (aEx_nameLengths, .inl (cI, 40, .inl (fun k9 => iI (zEx.nameLengths k9)))), (aEx_names, .inl (cB, 1200, .inl zEx.names))] H → va_D A [(aEx, .inr (8, [.int (iI zEx.size), .ref aEx_kinds, .ref aEx_indices, .ref aEx_nameLengths, .ref aEx_names])), (aEx_nameLengths, .inl (cI, 40, .inl (fun k9 => iI (zEx.nameLengths k9)))), (aEx_names, .inl (cB, 1200, .inl zEx.names))] → va_S A s.heap H locs → ∀ (ls : Array Slot), lv_has ls 6 [(0, .ref aEx), (1, .int (iI v_x)), (2, .ref aEx_names), (3, .int (iI v_start)), (4, .int (iI v_length)), (5, .int (iI w_k_5))] → W p l e (headSpec (wx y_Ex_isNamed b_Ex_isNamed 6 (some .boolean)) { frames := 0, cells := 0, slots := 0, locals := 0 }).room s m ([.ref aEx, .int (iI v_x), .ref aEx_names, .int (iI v_start), .int (iI v_length)] : List Value).toArray below meth c H locs 0 0 (MX below (XQ G classes A (fun o w1 => ozp R9 (fun x9 => (True) ∧ o = .returned (some (.int (bI x9))) ∧ w1 = [(aEx, .inr (8, [.int (iI zEx.size), .ref aEx_kinds, .ref aEx_indices, .ref aEx_nameLengths, .ref aEx_names])), (aEx_nameLengths, .inl (cI, 40, .inl (fun k9 => iI (zEx.nameLengths k9)))), (aEx_names, .inl (cB, 1200, .inl zEx.names))]) (fun _ => False))) ([.ref aEx, .int (iI v_x), .ref aEx_names, .int (iI v_start), .int (iI v_length)] : List Value).toArray s 0 0 A) (F0 m 16 ls []) := by
      intro n_3
      induction n_3 with
      | zero => intro w_k_5  hw_k_5 hf; exact absurd hf.symm hnb
      | succ n_3 ih_16 =>
        intro w_k_5  hw_k_5 hf H_1 locs_1 hP_1 hD_1 hS_1 ls hl
        clear hS hD hP
        rw [L16_Ex_isNamedN.eq_2] at hf
        refine lv_iload hx hb d_Ex_isNamed_16 (lv_at hl 5 rfl) ?_
        refine lv_iload hx hb d_Ex_isNamed_18 (lv_at hl 4 rfl) ?_
        refine lv_icmp_ge (tgt := 52) hx hb d_Ex_isNamed_20 (by decide) (fun c_6 => ?_) (fun c_6 => ?_)
        · have c_6 := ((zv_le (iI_t hv_length) (iI_t hw_k_5))).mp c_6
          replace hf := ifp c_6 hf
          refine lv_iconst (v := iI 1) hx hb d_Ex_isNamed_52 (by decide) ?_
          refine W.eq (g2 := F0 m 53 ls [.int (bI true)]) (by rfl) ?_
          exact ex_W (fun _ h => ex_mq h) (W.zret (v := bI true) hx hb hr (bI_nar _) (fun t ht hW => ⟨⟨_, ozr hf ⟨trivial, rfl, rfl⟩, by rw [ht]; exact hP_1, hD_1⟩, hS_1.F ht⟩) hS_1.2.2 d_Ex_isNamed_53)
        · have c_6 := (fun q9 => c_6 (((zv_le (iI_t hv_length) (iI_t hw_k_5))).mpr q9))
          replace hf := ifn c_6 hf
          refine lv_aload_n hx hb d_Ex_isNamed_23 rfl (lv_at hl 0 rfl) ?_
          refine va_get (D := G) (ci := 8) (v := .ref aEx_names) (C := R_Ex) (T := F_Ex) (N := 5) hx hb hts i_Ex hown hK hP_1 0 rfl rfl 4 (by decide) (hts _ m_237) (fun _ h9 => h9) rfl d_Ex_isNamed_24 ?_
          refine lv_iload_n hx hb d_Ex_isNamed_27 rfl (lv_at hl 1 rfl) ?_
          refine lv_bipush (v := iI 30) hx hb d_Ex_isNamed_28 (by decide) ?_
          refine lv_imul hx hb d_Ex_isNamed_30 ?_
          refine lv_topi (fun x9 e9 => ?_)
          obtain rfl : x9 = iI (v_x * 30) := e9.trans (iI_mul _ _)
          replace hf := grd hnb hf
          obtain ⟨g_7, hf⟩ := hf
          refine lv_iload hx hb d_Ex_isNamed_31 (lv_at hl 5 rfl) ?_
          refine lv_iadd hx hb d_Ex_isNamed_33 ?_
          refine lv_topi (fun x9 e9 => ?_)
          obtain rfl : x9 = iI ((v_x * 30) + w_k_5) := e9.trans (iI_add _ _)
          replace hf := grd hnb hf
          obtain ⟨g_8, hf⟩ := hf
          replace hf := grd hnb hf
          obtain ⟨g_9, hf⟩ := hf
          refine va_bald hx hb hK hP_1 2 0 rfl rfl (vp_in_iI g_8 g_9) d_Ex_isNamed_34 ?_
          refine W.eq (g2 := F0 m 35 ls [.int (zEx.names ((v_x * 30) + w_k_5).toNat)]) (by rw [iI_clamp g_8] <;> rfl) ?_
          refine lv_aload_n hx hb d_Ex_isNamed_35 rfl (lv_at hl 2 rfl) ?_
          refine lv_iload_n hx hb d_Ex_isNamed_36 rfl (lv_at hl 3 rfl) ?_
          refine lv_iload hx hb d_Ex_isNamed_37 (lv_at hl 5 rfl) ?_
          refine lv_iadd hx hb d_Ex_isNamed_39 ?_
          refine lv_topi (fun x9 e9 => ?_)
          obtain rfl : x9 = iI (v_start + w_k_5) := e9.trans (iI_add _ _)
          replace hf := grd hnb hf
          obtain ⟨g_10, hf⟩ := hf
          replace hf := grd hnb hf
          obtain ⟨g_11, hf⟩ := hf
          refine va_bald hx hb hK hP_1 2 0 rfl rfl (vp_in_iI g_10 g_11) d_Ex_isNamed_40 ?_
          refine W.eq (g2 := F0 m 41 ls [.int (zEx.names (v_start + w_k_5).toNat), .int (zEx.names ((v_x * 30) + w_k_5).toNat)]) (by rw [iI_clamp g_10] <;> rfl) ?_
          refine lv_icmp_eq (tgt := 46) hx hb d_Ex_isNamed_41 (by decide) (fun c_12 => ?_) (fun c_12 => ?_)
          · have c_12 := ((zv_eq rfl rfl)).mp c_12
            replace hf := ifp c_12 hf
            replace hf := grd hnb hf
            obtain ⟨g_13, hf⟩ := hf
            refine lv_iinc (v := iI (w_k_5 + 1)) (lv' := [(5, .int (iI (w_k_5 + 1))), (0, .ref aEx), (1, .int (iI v_x)), (2, .ref aEx_names), (3, .int (iI v_start)), (4, .int (iI v_length))]) hx hb d_Ex_isNamed_46 hl (k := 5) rfl (iI_add _ 1) (by decide) rfl (fun ls hl => ?_)
            refine lv_goto (tgt := 16) hx hb d_Ex_isNamed_49 (by decide) ?_
            exact ih_16 (w_k_5 + 1) g_13 hf _ _ hP_1 hD_1 hS_1 _ (lv_sub hl [1, 2, 3, 4, 5, 0] rfl)
          · have c_12 := (fun q9 => c_12 (((zv_eq rfl rfl)).mpr q9))
            replace hf := ifn c_12 hf
            refine lv_iconst (v := iI 0) hx hb d_Ex_isNamed_44 (by decide) ?_
            refine W.eq (g2 := F0 m 45 ls [.int (bI false)]) (by rfl) ?_
            exact ex_W (fun _ h => ex_mq h) (W.zret (v := bI false) hx hb hr (bI_nar _) (fun t ht hW => ⟨⟨_, ozr hf ⟨trivial, rfl, rfl⟩, by rw [ht]; exact hP_1, hD_1⟩, hS_1.F ht⟩) hS_1.2.2 d_Ex_isNamed_45)
    exact loop_16 fu 0 (show R32 (0) by decide) hf _ _ hP hD hS _ (lv_sub hl [1, 2, 3, 4, 5, 0] rfl)
  · have c_2 := (fun q9 => c_2 (((zv_eq (iI_t (hzEx.nameLengths _)) (iI_t hv_length))).mpr q9))
    replace hf := ifn c_2 hf
    refine lv_iconst (v := iI 0) hx hb d_Ex_isNamed_11 (by decide) ?_
    refine W.eq (g2 := F0 m 12 ls [.int (bI false)]) (by rfl) ?_
    exact ex_W (fun _ h => ex_mq h) (W.zret (v := bI false) hx hb hr (bI_nar _) (fun t ht hW => ⟨⟨_, ozr hf ⟨trivial, rfl, rfl⟩, by rw [ht]; exact hP, hD⟩, hS.F ht⟩) hS.2.2 d_Ex_isNamed_12)
set_option maxHeartbeats 8000000 in
set_option maxRecDepth 100000 in
theorem k_Ex_functionNamed (l : Launch) (htr : l.stackTraces = false) (G : va_G) (cB cI cJ cZ cG : ClassId) (aTp : Nat) (aEx : Nat) (aEx_kinds : Nat) (aEx_indices : Nat) (aEx_nameLengths : Nat) (aEx_names : Nat) (zSo : KSo) (zEx : KEx) (hzSo : KSo.Ok zSo) (hzEx : KEx.Ok zEx) (v_length : Int) (hv_length : R32 v_length) (fu : Nat) (R9 : Out Empty (Int)) (hf : f_Ex_functionNamed fu zSo zEx v_length = R9) (hnb : R9 ≠ .bad) (sz : Nat) : MetX l y_Ex_functionNamed (wx y_Ex_functionNamed b_Ex_functionNamed 4 (some .int)) { frames := 1, cells := 0, slots := 0, locals := 25 } (XP G classes (xtys cB cI cJ cZ cG) xE [.ref aEx, .ref aTp, .int (iI v_length)] [(aTp, .inl (cB, 2000, .inl zSo.bytes)), (aEx, .inr (8, [.int (iI zEx.size), .ref aEx_kinds, .ref aEx_indices, .ref aEx_nameLengths, .ref aEx_names])), (aEx_kinds, .inl (cI, 40, .inl (fun k9 => iI (zEx.kinds k9)))), (aEx_indices, .inl (cI, 40, .inl (fun k9 => iI (zEx.indices k9)))), (aEx_nameLengths, .inl (cI, 40, .inl (fun k9 => iI (zEx.nameLengths k9)))), (aEx_names, .inl (cB, 1200, .inl zEx.names))] sz) (XQ G classes (va_A [(aTp, .inl (cB, 2000, .inl zSo.bytes)), (aEx, .inr (8, [.int (iI zEx.size), .ref aEx_kinds, .ref aEx_indices, .ref aEx_nameLengths, .ref aEx_names])), (aEx_kinds, .inl (cI, 40, .inl (fun k9 => iI (zEx.kinds k9)))), (aEx_indices, .inl (cI, 40, .inl (fun k9 => iI (zEx.indices k9)))), (aEx_nameLengths, .inl (cI, 40, .inl (fun k9 => iI (zEx.nameLengths k9)))), (aEx_names, .inl (cB, 1200, .inl zEx.names))] sz) (fun o w1 => ozp R9 (fun x9 => (R32 x9) ∧ o = .returned (some (.int (iI x9))) ∧ w1 = [(aTp, .inl (cB, 2000, .inl zSo.bytes)), (aEx, .inr (8, [.int (iI zEx.size), .ref aEx_kinds, .ref aEx_indices, .ref aEx_nameLengths, .ref aEx_names])), (aEx_kinds, .inl (cI, 40, .inl (fun k9 => iI (zEx.kinds k9)))), (aEx_indices, .inl (cI, 40, .inl (fun k9 => iI (zEx.indices k9)))), (aEx_nameLengths, .inl (cI, 40, .inl (fun k9 => iI (zEx.nameLengths k9)))), (aEx_names, .inl (cB, 1200, .inl zEx.names))]) (fun _ => False))) 0 0 (va_A [(aTp, .inl (cB, 2000, .inl zSo.bytes)), (aEx, .inr (8, [.int (iI zEx.size), .ref aEx_kinds, .ref aEx_indices, .ref aEx_nameLengths, .ref aEx_names])), (aEx_kinds, .inl (cI, 40, .inl (fun k9 => iI (zEx.kinds k9)))), (aEx_indices, .inl (cI, 40, .inl (fun k9 => iI (zEx.indices k9)))), (aEx_nameLengths, .inl (cI, 40, .inl (fun k9 => iI (zEx.nameLengths k9)))), (aEx_names, .inl (cB, 1200, .inl zEx.names))] sz) := by
  refine ex_ofW (cc := b_Ex_functionNamed) (maxL := 4) (ret := (some .int)) (by decide) rfl ?_
  intro p e s m args below meth c s₁ B hml hno hv
  obtain ⟨rfl, hsz, hP, hK, hD0, hE⟩ := hv
  have hx := B.exec
  have hb := B.bytes
  have hr := B.returns
  have hts : ∀ w ∈ lw_good, w.before _ s = true := fun w h => atoms_spec (ws := wx y_Ex_functionNamed b_Ex_functionNamed 4 (some .int)) B.pre w (List.mem_cons_of_mem _ h)
  have hown : s.vm.findClass R_Ex = some m.cls := findClass_of_methodNamed B.named
  have hlocks := B.notSynchronized
  subst hsz
  have hNS := xx_nostat hP
  have hD := hD0.self (sz := s.heap.size)
  generalize hAe : va_A [(aTp, .inl (cB, 2000, .inl zSo.bytes)), (aEx, .inr (8, [.int (iI zEx.size), .ref aEx_kinds, .ref aEx_indices, .ref aEx_nameLengths, .ref aEx_names])), (aEx_kinds, .inl (cI, 40, .inl (fun k9 => iI (zEx.kinds k9)))), (aEx_indices, .inl (cI, 40, .inl (fun k9 => iI (zEx.indices k9)))), (aEx_nameLengths, .inl (cI, 40, .inl (fun k9 => iI (zEx.nameLengths k9)))), (aEx_names, .inl (cB, 1200, .inl zEx.names))] s.heap.size = A at hD hE hNS ⊢
  have hA : ∀ q : Nat, s.heap.size ≤ q → A q := fun q h => by rw [← hAe]; exact Or.inr h
  have hS : va_S A s.heap s.heap [] := va_S.rf
  have hl := lv_entry ([.ref aEx, .ref aTp, .int (iI v_length)]) (n := 4) (Nat.le_of_ble_eq_true rfl)
  rw [lg_entry_eq]
  generalize (lg_sl ([.ref aEx, .ref aTp, .int (iI v_length)]) ++ List.replicate (4 - (lg_sl ([.ref aEx, .ref aTp, .int (iI v_length)])).length) Slot.unset).toArray = ls at hl ⊢
  have hl : lv_has ls 4 [(0, .ref aEx), (1, .ref aTp), (2, .int (iI v_length))] := hl
  unfold f_Ex_functionNamed at hf
  refine lv_iconst (v := iI 0) hx hb d_Ex_functionNamed_0 (by decide) ?_
  refine lv_istore_n (lv' := [(3, .int (iI 0)), (0, .ref aEx), (1, .ref aTp), (2, .int (iI v_length))]) hx hb d_Ex_functionNamed_1 rfl hl (by decide) rfl (fun ls hl => ?_)
  have loop_2 : ∀ (n_1 : Nat) (w_x_3 : Int), R32 w_x_3 → L2_Ex_functionNamed fu zSo zEx v_length n_1 w_x_3 = R9 → ∀ (H : Heap) (locs : List Loc), va_P G classes [(aTp, .inl (cB, 2000, .inl zSo.bytes)), (aEx, .inr (8, [.int (iI zEx.size), .ref aEx_kinds, .ref aEx_indices, .ref aEx_nameLengths, .ref aEx_names])), (aEx_kinds, .inl (cI, 40, .inl (fun k9 => iI (zEx.kinds k9)))), (aEx_indices, .inl (cI, 40, .inl (fun k9 => iI (zEx.indices k9)))), (aEx_nameLengths, .inl (cI, 40, .inl (fun k9 => iI (zEx.nameLengths k9)))), (aEx_names, .inl (cB, 1200, .inl zEx.names))] H → va_D A [(aTp, .inl (cB, 2000, .inl zSo.bytes)), (aEx, .inr (8, [.int (iI zEx.size), .ref aEx_kinds, .ref aEx_indices, .ref aEx_nameLengths, .ref aEx_names])), (aEx_kinds, .inl (cI, 40, .inl (fun k9 => iI (zEx.kinds k9)))), (aEx_indices, .inl (cI, 40, .inl (fun k9 => iI (zEx.indices k9)))), (aEx_nameLengths, .inl (cI, 40, .inl (fun k9 => iI (zEx.nameLengths k9)))), (aEx_names, .inl (cB, 1200, .inl zEx.names))] → va_S A s.heap H locs → ∀ (ls : Array Slot), lv_has ls 4 [(0, .ref aEx), (1, .ref aTp), (2, .int (iI v_length)), (3, .int (iI w_x_3))] → W p l e (headSpec (wx y_Ex_functionNamed b_Ex_functionNamed 4 (some .int)) { frames := 1, cells := 0, slots := 0, locals := 25 }).room s m ([.ref aEx, .ref aTp, .int (iI v_length)] : List Value).toArray below meth c H locs 0 0 (MX below (XQ G classes A (fun o w1 => ozp R9 (fun x9 => (R32 x9) ∧ o = .returned (some (.int (iI x9))) ∧ w1 = [(aTp, .inl (cB, 2000, .inl zSo.bytes)), (aEx, .inr (8, [.int (iI zEx.size), .ref aEx_kinds, .ref aEx_indices, .ref aEx_nameLengths, .ref aEx_names])), (aEx_kinds, .inl (cI, 40, .inl (fun k9 => iI (zEx.kinds k9)))), (aEx_indices, .inl (cI, 40, .inl (fun k9 => iI (zEx.indices k9)))), (aEx_nameLengths, .inl (cI, 40, .inl (fun k9 => iI (zEx.nameLengths k9)))), (aEx_names, .inl (cB, 1200, .inl zEx.names))]) (fun _ => False))) ([.ref aEx, .ref aTp, .int (iI v_length)] : List Value).toArray s 0 0 A) (F0 m 2 ls []) := by
    intro n_1
    induction n_1 with
    | zero => intro w_x_3  hw_x_3 hf; exact absurd hf.symm hnb
    | succ n_1 ih_2 =>
      intro w_x_3  hw_x_3 hf H_4 locs_4 hP_4 hD_4 hS_4 ls hl
      clear hS hD hP
      rw [L2_Ex_functionNamed.eq_2] at hf
      refine lv_iload_n hx hb d_Ex_functionNamed_2 rfl (lv_at hl 3 rfl) ?_
      refine lv_aload_n hx hb d_Ex_functionNamed_3 rfl (lv_at hl 0 rfl) ?_
      refine va_get (D := G) (ci := 8) (v := .int (iI zEx.size)) (C := R_Ex) (T := F_Ex) (N := 5) hx hb hts i_Ex hown hK hP_4 1 rfl rfl 0 (by decide) (hts _ m_225) (fun _ h9 => h9) rfl d_Ex_functionNamed_4 ?_
      refine lv_icmp_ge (tgt := 43) hx hb d_Ex_functionNamed_7 (by decide) (fun c_4 => ?_) (fun c_4 => ?_)
      · have c_4 := ((zv_le (iI_t hzEx.size) (iI_t hw_x_3))).mp c_4
        replace hf := ifp c_4 hf
        refine lv_iconst (v := iI (-1)) hx hb d_Ex_functionNamed_43 (by decide) ?_
        exact ex_W (fun _ h => ex_mq h) (W.iret (v := iI (-1)) hx hb hr (fun t ht hW => ⟨⟨_, ozr hf ⟨(show R32 (-1) by decide), rfl, rfl⟩, by rw [ht]; exact hP_4, hD_4⟩, hS_4.F ht⟩) hS_4.2.2 d_Ex_functionNamed_44)
      · have c_4 := (fun q9 => c_4 (((zv_le (iI_t hzEx.size) (iI_t hw_x_3))).mpr q9))
        replace hf := ifn c_4 hf
        refine lv_aload_n hx hb d_Ex_functionNamed_10 rfl (lv_at hl 0 rfl) ?_
        refine va_get (D := G) (ci := 8) (v := .ref aEx_kinds) (C := R_Ex) (T := F_Ex) (N := 5) hx hb hts i_Ex hown hK hP_4 1 rfl rfl 1 (by decide) (hts _ m_229) (fun _ h9 => h9) rfl d_Ex_functionNamed_11 ?_
        refine lv_iload_n hx hb d_Ex_functionNamed_14 rfl (lv_at hl 3 rfl) ?_
        replace hf := grd hnb hf
        obtain ⟨g_5, hf⟩ := hf
        refine va_iald hx hb hK hP_4 2 1 rfl rfl (vp_in_iI hw_x_3 g_5) d_Ex_functionNamed_15 ?_
        refine W.eq (g2 := F0 m 16 ls [.int (iI (zEx.kinds w_x_3.toNat))]) (by rw [iI_clamp hw_x_3] <;> rfl) ?_
        refine jpE hf (fun K_7 hK_7 hf9 => ?_)
        replace hf := hf9
        clear hf9
        have hJK_7 : ∀ (y_6 : Unit), True → K_7 y_6 = R9 → ∀ (H_4 : Heap) (locs_4 : List Loc), va_P G classes [(aTp, .inl (cB, 2000, .inl zSo.bytes)), (aEx, .inr (8, [.int (iI zEx.size), .ref aEx_kinds, .ref aEx_indices, .ref aEx_nameLengths, .ref aEx_names])), (aEx_kinds, .inl (cI, 40, .inl (fun k9 => iI (zEx.kinds k9)))), (aEx_indices, .inl (cI, 40, .inl (fun k9 => iI (zEx.indices k9)))), (aEx_nameLengths, .inl (cI, 40, .inl (fun k9 => iI (zEx.nameLengths k9)))), (aEx_names, .inl (cB, 1200, .inl zEx.names))] H_4 → va_D A [(aTp, .inl (cB, 2000, .inl zSo.bytes)), (aEx, .inr (8, [.int (iI zEx.size), .ref aEx_kinds, .ref aEx_indices, .ref aEx_nameLengths, .ref aEx_names])), (aEx_kinds, .inl (cI, 40, .inl (fun k9 => iI (zEx.kinds k9)))), (aEx_indices, .inl (cI, 40, .inl (fun k9 => iI (zEx.indices k9)))), (aEx_nameLengths, .inl (cI, 40, .inl (fun k9 => iI (zEx.nameLengths k9)))), (aEx_names, .inl (cB, 1200, .inl zEx.names))] → va_S A s.heap H_4 locs_4 → ∀ (ls : Array Slot), lv_has ls 4 [(0, .ref aEx), (1, .ref aTp), (2, .int (iI v_length)), (3, .int (iI w_x_3))] → W p l e (headSpec (wx y_Ex_functionNamed b_Ex_functionNamed 4 (some .int)) { frames := 1, cells := 0, slots := 0, locals := 25 }).room s m ([.ref aEx, .ref aTp, .int (iI v_length)] : List Value).toArray below meth c H_4 locs_4 0 0 (MX below (XQ G classes A (fun o w1 => ozp R9 (fun x9 => (R32 x9) ∧ o = .returned (some (.int (iI x9))) ∧ w1 = [(aTp, .inl (cB, 2000, .inl zSo.bytes)), (aEx, .inr (8, [.int (iI zEx.size), .ref aEx_kinds, .ref aEx_indices, .ref aEx_nameLengths, .ref aEx_names])), (aEx_kinds, .inl (cI, 40, .inl (fun k9 => iI (zEx.kinds k9)))), (aEx_indices, .inl (cI, 40, .inl (fun k9 => iI (zEx.indices k9)))), (aEx_nameLengths, .inl (cI, 40, .inl (fun k9 => iI (zEx.nameLengths k9)))), (aEx_names, .inl (cB, 1200, .inl zEx.names))]) (fun _ => False))) ([.ref aEx, .ref aTp, .int (iI v_length)] : List Value).toArray s 0 0 A) (F0 m 37 ls []) := by
          intro y_6 hy_6 hf H_6 locs_6 hP_6 hD_6 hS_6 ls hl
          clear hS_4 hD_4 hP_4
          replace hf := (congrFun hK_7 y_6).symm.trans hf
          clear hK_7
          replace hf := grd hnb hf
          obtain ⟨g_8, hf⟩ := hf
          refine lv_iinc (v := iI (w_x_3 + 1)) (lv' := [(3, .int (iI (w_x_3 + 1))), (0, .ref aEx), (1, .ref aTp), (2, .int (iI v_length))]) hx hb d_Ex_functionNamed_37 hl (k := 3) rfl (iI_add _ 1) (by decide) rfl (fun ls hl => ?_)
          refine lv_goto (tgt := 2) hx hb d_Ex_functionNamed_40 (by decide) ?_
          exact ih_2 (w_x_3 + 1) g_8 hf _ _ hP_6 hD_6 hS_6 _ (lv_sub hl [1, 2, 3, 0] rfl)
        clear hK_7
        refine lv_if_ne (tgt := 37) hx hb d_Ex_functionNamed_16 (by decide) (fun c_9 => ?_) (fun c_9 => ?_)
        · have c_9 := (fun q9 => c_9 (((zv_eq (iI_t (hzEx.kinds _)) zero_v)).mpr q9))
          replace hf := ifn c_9 hf
          exact hJK_7 () trivial hf _ _ hP_4 hD_4 hS_4 _ (lv_sub hl [0, 1, 2, 3] rfl)
        · have c_9 := ((zv_eq (iI_t (hzEx.kinds _)) zero_v)).mp c_9
          replace hf := ifp c_9 hf
          refine lv_aload_n hx hb d_Ex_functionNamed_19 rfl (lv_at hl 0 rfl) ?_
          refine lv_iload_n hx hb d_Ex_functionNamed_20 rfl (lv_at hl 3 rfl) ?_
          refine lv_aload_n hx hb d_Ex_functionNamed_21 rfl (lv_at hl 1 rfl) ?_
          refine lv_iconst (v := iI 0) hx hb d_Ex_functionNamed_22 (by decide) ?_
          refine lv_iload_n hx hb d_Ex_functionNamed_23 rfl (lv_at hl 2 rfl) ?_
          replace hf := obE hnb hf
          obtain ⟨x_10, e_11, hf⟩ := hf
          refine xx_callV (wc := [(aTp, .inl (cB, 2000, .inl zSo.bytes)), (aEx, .inr (8, [.int (iI zEx.size), .ref aEx_kinds, .ref aEx_indices, .ref aEx_nameLengths, .ref aEx_names])), (aEx_nameLengths, .inl (cI, 40, .inl (fun k9 => iI (zEx.nameLengths k9)))), (aEx_names, .inl (cB, 1200, .inl zEx.names))]) (wr := [(aEx_kinds, .inl (cI, 40, .inl (fun k9 => iI (zEx.kinds k9)))), (aEx_indices, .inl (cI, 40, .inl (fun k9 => iI (zEx.indices k9))))]) (As := [.int (iI w_x_3), .ref aTp, .int (iI 0), .int (iI v_length)]) (rest := []) ⟨hx, hb, hml, hown, hts⟩ xE_st hK hE hA (k_Ex_isNamedT l htr G cB cI cJ cZ cG aTp aEx aEx_kinds aEx_indices aEx_nameLengths aEx_names zSo zEx hzSo hzEx w_x_3 0 v_length hw_x_3 (show R32 (0) by decide) hv_length fu (.ret x_10) e_11 ret_nb _) (xw_V 4 hts m_460 m_462 ms_Ex_isNamed m_9 m_463 (by decide +kernel) ⟨(Nat.le_of_ble_eq_true rfl), (Nat.le_of_ble_eq_true rfl)⟩) hP_4 hD_4 hS_4 [0, 1, 4, 5] [2, 3] rfl rfl (by decide +kernel) (by decide +kernel) (by decide +kernel) 1 8 rfl rfl rfl rfl hl.1 rfl (Nat.le_of_ble_eq_true rfl) d_Ex_functionNamed_24 ⟨(Nat.le_of_ble_eq_true rfl), (Nat.le_of_ble_eq_true rfl)⟩ (fun v9 w9 H_7 locs_7 hp hP_7 hD_7 hS_7 => ?_) (fun x9 w9 H9 l9 hp _ _ _ => absurd hp (fun q9 => by obtain ⟨-, ho, -⟩ := q9; cases ho))
          clear hS_4 hD_4 hP_4
          obtain ⟨hx_10, ho, rfl⟩ := hp
          cases ho
          replace hP_7 : va_P G classes [(aEx_kinds, .inl (cI, 40, .inl (fun k9 => iI (zEx.kinds k9)))), (aEx_indices, .inl (cI, 40, .inl (fun k9 => iI (zEx.indices k9)))), (aTp, .inl (cB, 2000, .inl zSo.bytes)), (aEx, .inr (8, [.int (iI zEx.size), .ref aEx_kinds, .ref aEx_indices, .ref aEx_nameLengths, .ref aEx_names])), (aEx_nameLengths, .inl (cI, 40, .inl (fun k9 => iI (zEx.nameLengths k9)))), (aEx_names, .inl (cB, 1200, .inl zEx.names))] H_7 := hP_7
          replace hD_7 : va_D A [(aEx_kinds, .inl (cI, 40, .inl (fun k9 => iI (zEx.kinds k9)))), (aEx_indices, .inl (cI, 40, .inl (fun k9 => iI (zEx.indices k9)))), (aTp, .inl (cB, 2000, .inl zSo.bytes)), (aEx, .inr (8, [.int (iI zEx.size), .ref aEx_kinds, .ref aEx_indices, .ref aEx_nameLengths, .ref aEx_names])), (aEx_nameLengths, .inl (cI, 40, .inl (fun k9 => iI (zEx.nameLengths k9)))), (aEx_names, .inl (cB, 1200, .inl zEx.names))] := hD_7
          refine lv_if_eq (tgt := 37) hx hb d_Ex_functionNamed_27 (by decide) (fun c_12 => ?_) (fun c_12 => ?_)
          · have c_12 := (zb_f c_12)
            replace hf := ifn c_12 hf
            exact hJK_7 () trivial hf _ _ (hP_7.sub [2, 3, 0, 1, 4, 5] rfl) (hD_7.sub [2, 3, 0, 1, 4, 5] (by decide +kernel) rfl) hS_7 _ (lv_sub hl [0, 1, 2, 3] rfl)
          · have c_12 := (zb_t c_12)
            replace hf := ifp c_12 hf
            refine lv_aload_n hx hb d_Ex_functionNamed_30 rfl (lv_at hl 0 rfl) ?_
            refine va_get (D := G) (ci := 8) (v := .ref aEx_indices) (C := R_Ex) (T := F_Ex) (N := 5) hx hb hts i_Ex hown hK hP_7 3 rfl rfl 2 (by decide) (hts _ m_232) (fun _ h9 => h9) rfl d_Ex_functionNamed_31 ?_
            refine lv_iload_n hx hb d_Ex_functionNamed_34 rfl (lv_at hl 3 rfl) ?_
            replace hf := grd hnb hf
            obtain ⟨g_13, hf⟩ := hf
            refine va_iald hx hb hK hP_7 1 1 rfl rfl (vp_in_iI hw_x_3 g_13) d_Ex_functionNamed_35 ?_
            refine W.eq (g2 := F0 m 36 ls [.int (iI (zEx.indices w_x_3.toNat))]) (by rw [iI_clamp hw_x_3] <;> rfl) ?_
            have hP_7 := hP_7.sub (ws' := [(aTp, .inl (cB, 2000, .inl zSo.bytes)), (aEx, .inr (8, [.int (iI zEx.size), .ref aEx_kinds, .ref aEx_indices, .ref aEx_nameLengths, .ref aEx_names])), (aEx_kinds, .inl (cI, 40, .inl (fun k9 => iI (zEx.kinds k9)))), (aEx_indices, .inl (cI, 40, .inl (fun k9 => iI (zEx.indices k9)))), (aEx_nameLengths, .inl (cI, 40, .inl (fun k9 => iI (zEx.nameLengths k9)))), (aEx_names, .inl (cB, 1200, .inl zEx.names))]) [2, 3, 0, 1, 4, 5] rfl
            have hD_7 := hD_7.sub (ws' := [(aTp, .inl (cB, 2000, .inl zSo.bytes)), (aEx, .inr (8, [.int (iI zEx.size), .ref aEx_kinds, .ref aEx_indices, .ref aEx_nameLengths, .ref aEx_names])), (aEx_kinds, .inl (cI, 40, .inl (fun k9 => iI (zEx.kinds k9)))), (aEx_indices, .inl (cI, 40, .inl (fun k9 => iI (zEx.indices k9)))), (aEx_nameLengths, .inl (cI, 40, .inl (fun k9 => iI (zEx.nameLengths k9)))), (aEx_names, .inl (cB, 1200, .inl zEx.names))]) [2, 3, 0, 1, 4, 5] (by decide +kernel) rfl
            exact ex_W (fun _ h => ex_mq h) (W.iret (v := iI (zEx.indices w_x_3.toNat)) hx hb hr (fun t ht hW => ⟨⟨_, ozr hf ⟨(hzEx.indices _), rfl, rfl⟩, by rw [ht]; exact hP_7, hD_7⟩, hS_7.F ht⟩) hS_7.2.2 d_Ex_functionNamed_36)
  exact loop_2 fu 0 (show R32 (0) by decide) hf _ _ hP hD hS _ (lv_sub hl [1, 2, 3, 0] rfl)
set_option maxHeartbeats 8000000 in
set_option maxRecDepth 100000 in
theorem k_Ex_haveDifferentNames (l : Launch) (htr : l.stackTraces = false) (G : va_G) (cB cI cJ cZ cG : ClassId) (aEx : Nat) (aEx_kinds : Nat) (aEx_indices : Nat) (aEx_nameLengths : Nat) (aEx_names : Nat) (zEx : KEx) (hzEx : KEx.Ok zEx) (fu : Nat) (R9 : Out Empty (Bool)) (hf : f_Ex_haveDifferentNames fu zEx = R9) (hnb : R9 ≠ .bad) (sz : Nat) : MetX l y_Ex_haveDifferentNames (wx y_Ex_haveDifferentNames b_Ex_haveDifferentNames 3 (some .boolean)) { frames := 1, cells := 0, slots := 0, locals := 25 } (XP G classes (xtys cB cI cJ cZ cG) xE [.ref aEx] [(aEx, .inr (8, [.int (iI zEx.size), .ref aEx_kinds, .ref aEx_indices, .ref aEx_nameLengths, .ref aEx_names])), (aEx_nameLengths, .inl (cI, 40, .inl (fun k9 => iI (zEx.nameLengths k9)))), (aEx_names, .inl (cB, 1200, .inl zEx.names))] sz) (XQ G classes (va_A [(aEx, .inr (8, [.int (iI zEx.size), .ref aEx_kinds, .ref aEx_indices, .ref aEx_nameLengths, .ref aEx_names])), (aEx_nameLengths, .inl (cI, 40, .inl (fun k9 => iI (zEx.nameLengths k9)))), (aEx_names, .inl (cB, 1200, .inl zEx.names))] sz) (fun o w1 => ozp R9 (fun x9 => (True) ∧ o = .returned (some (.int (bI x9))) ∧ w1 = [(aEx, .inr (8, [.int (iI zEx.size), .ref aEx_kinds, .ref aEx_indices, .ref aEx_nameLengths, .ref aEx_names])), (aEx_nameLengths, .inl (cI, 40, .inl (fun k9 => iI (zEx.nameLengths k9)))), (aEx_names, .inl (cB, 1200, .inl zEx.names))]) (fun _ => False))) 0 0 (va_A [(aEx, .inr (8, [.int (iI zEx.size), .ref aEx_kinds, .ref aEx_indices, .ref aEx_nameLengths, .ref aEx_names])), (aEx_nameLengths, .inl (cI, 40, .inl (fun k9 => iI (zEx.nameLengths k9)))), (aEx_names, .inl (cB, 1200, .inl zEx.names))] sz) := by
  refine ex_ofW (cc := b_Ex_haveDifferentNames) (maxL := 3) (ret := (some .boolean)) (by decide) rfl ?_
  intro p e s m args below meth c s₁ B hml hno hv
  obtain ⟨rfl, hsz, hP, hK, hD0, hE⟩ := hv
  have hx := B.exec
  have hb := B.bytes
  have hr := B.returns
  have hts : ∀ w ∈ lw_good, w.before _ s = true := fun w h => atoms_spec (ws := wx y_Ex_haveDifferentNames b_Ex_haveDifferentNames 3 (some .boolean)) B.pre w (List.mem_cons_of_mem _ h)
  have hown : s.vm.findClass R_Ex = some m.cls := findClass_of_methodNamed B.named
  have hlocks := B.notSynchronized
  subst hsz
  have hNS := xx_nostat hP
  have hD := hD0.self (sz := s.heap.size)
  generalize hAe : va_A [(aEx, .inr (8, [.int (iI zEx.size), .ref aEx_kinds, .ref aEx_indices, .ref aEx_nameLengths, .ref aEx_names])), (aEx_nameLengths, .inl (cI, 40, .inl (fun k9 => iI (zEx.nameLengths k9)))), (aEx_names, .inl (cB, 1200, .inl zEx.names))] s.heap.size = A at hD hE hNS ⊢
  have hA : ∀ q : Nat, s.heap.size ≤ q → A q := fun q h => by rw [← hAe]; exact Or.inr h
  have hS : va_S A s.heap s.heap [] := va_S.rf
  have hl := lv_entry ([.ref aEx]) (n := 3) (Nat.le_of_ble_eq_true rfl)
  rw [lg_entry_eq]
  generalize (lg_sl ([.ref aEx]) ++ List.replicate (3 - (lg_sl ([.ref aEx])).length) Slot.unset).toArray = ls at hl ⊢
  have hl : lv_has ls 3 [(0, .ref aEx)] := hl
  unfold f_Ex_haveDifferentNames at hf
  refine lv_iconst (v := iI 0) hx hb d_Ex_haveDifferentNames_0 (by decide) ?_
  refine lv_istore_n (lv' := [(1, .int (iI 0)), (0, .ref aEx)]) hx hb d_Ex_haveDifferentNames_1 rfl hl (by decide) rfl (fun ls hl => ?_)
  have loop_2 : ∀ (n_1 : Nat) (w_x_3 : Int), R32 w_x_3 → L2_Ex_haveDifferentNames fu zEx n_1 w_x_3 = R9 → ∀ (H : Heap) (locs : List Loc), va_P G classes [(aEx, .inr (8, [.int (iI zEx.size), .ref aEx_kinds, .ref aEx_indices, .ref aEx_nameLengths, .ref aEx_names])), (aEx_nameLengths, .inl (cI, 40, .inl (fun k9 => iI (zEx.nameLengths k9)))), (aEx_names, .inl (cB, 1200, .inl zEx.names))] H → va_D A [(aEx, .inr (8, [.int (iI zEx.size), .ref aEx_kinds, .ref aEx_indices, .ref aEx_nameLengths, .ref aEx_names])), (aEx_nameLengths, .inl (cI, 40, .inl (fun k9 => iI (zEx.nameLengths k9)))), (aEx_names, .inl (cB, 1200, .inl zEx.names))] → va_S A s.heap H locs → ∀ (ls : Array Slot), lv_has ls 3 [(0, .ref aEx), (1, .int (iI w_x_3))] → W p l e (headSpec (wx y_Ex_haveDifferentNames b_Ex_haveDifferentNames 3 (some .boolean)) { frames := 1, cells := 0, slots := 0, locals := 25 }).room s m ([.ref aEx] : List Value).toArray below meth c H locs 0 0 (MX below (XQ G classes A (fun o w1 => ozp R9 (fun x9 => (True) ∧ o = .returned (some (.int (bI x9))) ∧ w1 = [(aEx, .inr (8, [.int (iI zEx.size), .ref aEx_kinds, .ref aEx_indices, .ref aEx_nameLengths, .ref aEx_names])), (aEx_nameLengths, .inl (cI, 40, .inl (fun k9 => iI (zEx.nameLengths k9)))), (aEx_names, .inl (cB, 1200, .inl zEx.names))]) (fun _ => False))) ([.ref aEx] : List Value).toArray s 0 0 A) (F0 m 2 ls []) := by
    intro n_1
    induction n_1 with
    | zero => intro w_x_3  hw_x_3 hf; exact absurd hf.symm hnb
    | succ n_1 ih_2 =>
      intro w_x_3  hw_x_3 hf H_5 locs_5 hP_5 hD_5 hS_5 ls hl
      clear hS hD hP
      rw [L2_Ex_haveDifferentNames.eq_2] at hf
      refine lv_iload_n hx hb d_Ex_haveDifferentNames_2 rfl (lv_at hl 1 rfl) ?_
      refine lv_aload_n hx hb d_Ex_haveDifferentNames_3 rfl (lv_at hl 0 rfl) ?_
      refine va_get (D := G) (ci := 8) (v := .int (iI zEx.size)) (C := R_Ex) (T := F_Ex) (N := 5) hx hb hts i_Ex hown hK hP_5 0 rfl rfl 0 (by decide) (hts _ m_225) (fun _ h9 => h9) rfl d_Ex_haveDifferentNames_4 ?_
      refine lv_icmp_ge (tgt := 53) hx hb d_Ex_haveDifferentNames_7 (by decide) (fun c_4 => ?_) (fun c_4 => ?_)
      · have c_4 := ((zv_le (iI_t hzEx.size) (iI_t hw_x_3))).mp c_4
        replace hf := ifp c_4 hf
        refine lv_iconst (v := iI 1) hx hb d_Ex_haveDifferentNames_53 (by decide) ?_
        refine W.eq (g2 := F0 m 54 ls [.int (bI true)]) (by rfl) ?_
        exact ex_W (fun _ h => ex_mq h) (W.zret (v := bI true) hx hb hr (bI_nar _) (fun t ht hW => ⟨⟨_, ozr hf ⟨trivial, rfl, rfl⟩, by rw [ht]; exact hP_5, hD_5⟩, hS_5.F ht⟩) hS_5.2.2 d_Ex_haveDifferentNames_54)
      · have c_4 := (fun q9 => c_4 (((zv_le (iI_t hzEx.size) (iI_t hw_x_3))).mpr q9))
        replace hf := ifn c_4 hf
        refine lv_iconst (v := iI 0) hx hb d_Ex_haveDifferentNames_10 (by decide) ?_
        refine lv_istore_n (lv' := [(2, .int (iI 0)), (0, .ref aEx), (1, .int (iI w_x_3))]) hx hb d_Ex_haveDifferentNames_11 rfl hl (by decide) rfl (fun ls hl => ?_)
        refine obGS hf (fun K_7 hK_7 hf => ?_)
        have hJK_7 : ∀ (y_9 : Int), R32 y_9 → K_7 y_9 = R9 → ∀ (H_5 : Heap) (locs_5 : List Loc), va_P G classes [(aEx, .inr (8, [.int (iI zEx.size), .ref aEx_kinds, .ref aEx_indices, .ref aEx_nameLengths, .ref aEx_names])), (aEx_nameLengths, .inl (cI, 40, .inl (fun k9 => iI (zEx.nameLengths k9)))), (aEx_names, .inl (cB, 1200, .inl zEx.names))] H_5 → va_D A [(aEx, .inr (8, [.int (iI zEx.size), .ref aEx_kinds, .ref aEx_indices, .ref aEx_nameLengths, .ref aEx_names])), (aEx_nameLengths, .inl (cI, 40, .inl (fun k9 => iI (zEx.nameLengths k9)))), (aEx_names, .inl (cB, 1200, .inl zEx.names))] → va_S A s.heap H_5 locs_5 → ∀ (ls : Array Slot), lv_has ls 3 [(0, .ref aEx), (1, .int (iI w_x_3)), (2, .int (iI y_9))] → W p l e (headSpec (wx y_Ex_haveDifferentNames b_Ex_haveDifferentNames 3 (some .boolean)) { frames := 1, cells := 0, slots := 0, locals := 25 }).room s m ([.ref aEx] : List Value).toArray below meth c H_5 locs_5 0 0 (MX below (XQ G classes A (fun o w1 => ozp R9 (fun x9 => (True) ∧ o = .returned (some (.int (bI x9))) ∧ w1 = [(aEx, .inr (8, [.int (iI zEx.size), .ref aEx_kinds, .ref aEx_indices, .ref aEx_nameLengths, .ref aEx_names])), (aEx_nameLengths, .inl (cI, 40, .inl (fun k9 => iI (zEx.nameLengths k9)))), (aEx_names, .inl (cB, 1200, .inl zEx.names))]) (fun _ => False))) ([.ref aEx] : List Value).toArray s 0 0 A) (F0 m 47 ls []) := by
          intro y_9 hy_9 hf H_7 locs_7 hP_7 hD_7 hS_7 ls hl
          clear hS_5 hD_5 hP_5
          replace hf := (congrFun hK_7 y_9).symm.trans hf
          clear hK_7
          replace hf := grd hnb hf
          obtain ⟨g_10, hf⟩ := hf
          refine lv_iinc (v := iI (w_x_3 + 1)) (lv' := [(1, .int (iI (w_x_3 + 1))), (0, .ref aEx), (2, .int (iI y_9))]) hx hb d_Ex_haveDifferentNames_47 hl (k := 1) rfl (iI_add _ 1) (by decide) rfl (fun ls hl => ?_)
          refine lv_goto (tgt := 2) hx hb d_Ex_haveDifferentNames_50 (by decide) ?_
          exact ih_2 (w_x_3 + 1) g_10 hf _ _ hP_7 hD_7 hS_7 _ (lv_sub hl [1, 0] rfl)
        clear hK_7
        have loop_12 : ∀ (n_5 : Nat) (w_y_11 : Int), R32 w_y_11 → ∀ (R_12 : Out Empty ((Bool) ⊕ (Int))), L12_Ex_haveDifferentNames fu zEx w_x_3 n_5 w_y_11 = R_12 → obindS R_12 K_7 = R9 → ∀ (H_5 : Heap) (locs_5 : List Loc), va_P G classes [(aEx, .inr (8, [.int (iI zEx.size), .ref aEx_kinds, .ref aEx_indices, .ref aEx_nameLengths, .ref aEx_names])), (aEx_nameLengths, .inl (cI, 40, .inl (fun k9 => iI (zEx.nameLengths k9)))), (aEx_names, .inl (cB, 1200, .inl zEx.names))] H_5 → va_D A [(aEx, .inr (8, [.int (iI zEx.size), .ref aEx_kinds, .ref aEx_indices, .ref aEx_nameLengths, .ref aEx_names])), (aEx_nameLengths, .inl (cI, 40, .inl (fun k9 => iI (zEx.nameLengths k9)))), (aEx_names, .inl (cB, 1200, .inl zEx.names))] → va_S A s.heap H_5 locs_5 → ∀ (ls : Array Slot), lv_has ls 3 [(0, .ref aEx), (1, .int (iI w_x_3)), (2, .int (iI w_y_11))] → W p l e (headSpec (wx y_Ex_haveDifferentNames b_Ex_haveDifferentNames 3 (some .boolean)) { frames := 1, cells := 0, slots := 0, locals := 25 }).room s m ([.ref aEx] : List Value).toArray below meth c H_5 locs_5 0 0 (MX below (XQ G classes A (fun o w1 => ozp R9 (fun x9 => (True) ∧ o = .returned (some (.int (bI x9))) ∧ w1 = [(aEx, .inr (8, [.int (iI zEx.size), .ref aEx_kinds, .ref aEx_indices, .ref aEx_nameLengths, .ref aEx_names])), (aEx_nameLengths, .inl (cI, 40, .inl (fun k9 => iI (zEx.nameLengths k9)))), (aEx_names, .inl (cB, 1200, .inl zEx.names))]) (fun _ => False))) ([.ref aEx] : List Value).toArray s 0 0 A) (F0 m 12 ls []) := by
          intro n_5
          induction n_5 with
          | zero => intro w_y_11  hw_y_11 R_12 hf hk12; subst hf; exact absurd hk12.symm hnb
          | succ n_5 ih_12 =>
            intro w_y_11  hw_y_11 R_12 hf hk12 H_8 locs_8 hP_8 hD_8 hS_8 ls hl
            clear hS_5 hD_5 hP_5
            have hnb : R_12 ≠ .bad := ob_nbS hnb hk12
            rw [L12_Ex_haveDifferentNames.eq_2] at hf
            refine lv_iload_n hx hb d_Ex_haveDifferentNames_12 rfl (lv_at hl 2 rfl) ?_
            refine lv_iload_n hx hb d_Ex_haveDifferentNames_13 rfl (lv_at hl 1 rfl) ?_
            refine lv_icmp_ge (tgt := 47) hx hb d_Ex_haveDifferentNames_14 (by decide) (fun c_13 => ?_) (fun c_13 => ?_)
            · have c_13 := ((zv_le (iI_t hw_x_3) (iI_t hw_y_11))).mp c_13
              replace hf := ifp c_13 hf
              exact hJK_7 w_y_11 hw_y_11 (ob_rS hf hk12) _ _ hP_8 hD_8 hS_8 _ (lv_sub hl [0, 1, 2] rfl)
            · have c_13 := (fun q9 => c_13 (((zv_le (iI_t hw_x_3) (iI_t hw_y_11))).mpr q9))
              replace hf := ifn c_13 hf
              refine lv_aload_n hx hb d_Ex_haveDifferentNames_17 rfl (lv_at hl 0 rfl) ?_
              refine lv_iload_n hx hb d_Ex_haveDifferentNames_18 rfl (lv_at hl 1 rfl) ?_
              refine lv_aload_n hx hb d_Ex_haveDifferentNames_19 rfl (lv_at hl 0 rfl) ?_
              refine va_get (D := G) (ci := 8) (v := .ref aEx_names) (C := R_Ex) (T := F_Ex) (N := 5) hx hb hts i_Ex hown hK hP_8 0 rfl rfl 4 (by decide) (hts _ m_237) (fun _ h9 => h9) rfl d_Ex_haveDifferentNames_20 ?_
              refine lv_iload_n hx hb d_Ex_haveDifferentNames_23 rfl (lv_at hl 2 rfl) ?_
              refine lv_bipush (v := iI 30) hx hb d_Ex_haveDifferentNames_24 (by decide) ?_
              refine lv_imul hx hb d_Ex_haveDifferentNames_26 ?_
              refine lv_topi (fun x9 e9 => ?_)
              obtain rfl : x9 = iI (w_y_11 * 30) := e9.trans (iI_mul _ _)
              replace hf := grd hnb hf
              obtain ⟨g_14, hf⟩ := hf
              refine lv_aload_n hx hb d_Ex_haveDifferentNames_27 rfl (lv_at hl 0 rfl) ?_
              refine va_get (D := G) (ci := 8) (v := .ref aEx_nameLengths) (C := R_Ex) (T := F_Ex) (N := 5) hx hb hts i_Ex hown hK hP_8 0 rfl rfl 3 (by decide) (hts _ m_235) (fun _ h9 => h9) rfl d_Ex_haveDifferentNames_28 ?_
              refine lv_iload_n hx hb d_Ex_haveDifferentNames_31 rfl (lv_at hl 2 rfl) ?_
              replace hf := grd hnb hf
              obtain ⟨g_15, hf⟩ := hf
              refine va_iald hx hb hK hP_8 1 1 rfl rfl (vp_in_iI hw_y_11 g_15) d_Ex_haveDifferentNames_32 ?_
              refine W.eq (g2 := F0 m 33 ls [.int (iI (zEx.nameLengths w_y_11.toNat)), .int (iI (w_y_11 * 30)), .ref aEx_names, .int (iI w_x_3), .ref aEx]) (by rw [iI_clamp hw_y_11] <;> rfl) ?_
              replace hf := obE hnb hf
              obtain ⟨x_16, e_17, hf⟩ := hf
              refine xx_callV (wc := [(aEx, .inr (8, [.int (iI zEx.size), .ref aEx_kinds, .ref aEx_indices, .ref aEx_nameLengths, .ref aEx_names])), (aEx_nameLengths, .inl (cI, 40, .inl (fun k9 => iI (zEx.nameLengths k9)))), (aEx_names, .inl (cB, 1200, .inl zEx.names))]) (wr := []) (As := [.int (iI w_x_3), .ref aEx_names, .int (iI (w_y_11 * 30)), .int (iI (zEx.nameLengths w_y_11.toNat))]) (rest := []) ⟨hx, hb, hml, hown, hts⟩ xE_st hK hE hA (k_Ex_isNamedN l htr G cB cI cJ cZ cG aEx aEx_kinds aEx_indices aEx_nameLengths aEx_names zEx hzEx w_x_3 (w_y_11 * 30) (zEx.nameLengths w_y_11.toNat) hw_x_3 g_14 (hzEx.nameLengths _) fu (.ret x_16) e_17 ret_nb _) (xw_V 4 hts m_460 m_462 ms_Ex_isNamed m_9 m_463 (by decide +kernel) ⟨(Nat.le_of_ble_eq_true rfl), (Nat.le_of_ble_eq_true rfl)⟩) hP_8 hD_8 hS_8 [0, 1, 2] [] rfl rfl (by decide +kernel) (by decide +kernel) (by decide +kernel) 0 8 rfl rfl rfl rfl hl.1 rfl (Nat.le_of_ble_eq_true rfl) d_Ex_haveDifferentNames_33 ⟨(Nat.le_of_ble_eq_true rfl), (Nat.le_of_ble_eq_true rfl)⟩ (fun v9 w9 H_9 locs_9 hp hP_9 hD_9 hS_9 => ?_) (fun x9 w9 H9 l9 hp _ _ _ => absurd hp (fun q9 => by obtain ⟨-, ho, -⟩ := q9; cases ho))
              clear hS_8 hD_8 hP_8
              obtain ⟨hx_16, ho, rfl⟩ := hp
              cases ho
              replace hP_9 : va_P G classes [(aEx, .inr (8, [.int (iI zEx.size), .ref aEx_kinds, .ref aEx_indices, .ref aEx_nameLengths, .ref aEx_names])), (aEx_nameLengths, .inl (cI, 40, .inl (fun k9 => iI (zEx.nameLengths k9)))), (aEx_names, .inl (cB, 1200, .inl zEx.names))] H_9 := hP_9
              replace hD_9 : va_D A [(aEx, .inr (8, [.int (iI zEx.size), .ref aEx_kinds, .ref aEx_indices, .ref aEx_nameLengths, .ref aEx_names])), (aEx_nameLengths, .inl (cI, 40, .inl (fun k9 => iI (zEx.nameLengths k9)))), (aEx_names, .inl (cB, 1200, .inl zEx.names))] := hD_9
              refine lv_if_eq (tgt := 41) hx hb d_Ex_haveDifferentNames_36 (by decide) (fun c_18 => ?_) (fun c_18 => ?_)
              · have c_18 := (zb_f c_18)
                replace hf := ifn c_18 hf
                replace hf := grd hnb hf
                obtain ⟨g_19, hf⟩ := hf
                refine lv_iinc (v := iI (w_y_11 + 1)) (lv' := [(2, .int (iI (w_y_11 + 1))), (0, .ref aEx), (1, .int (iI w_x_3))]) hx hb d_Ex_haveDifferentNames_41 hl (k := 2) rfl (iI_add _ 1) (by decide) rfl (fun ls hl => ?_)
                refine lv_goto (tgt := 12) hx hb d_Ex_haveDifferentNames_44 (by decide) ?_
                exact ih_12 (w_y_11 + 1) g_19 _ hf hk12 _ _ hP_9 hD_9 hS_9 _ (lv_sub hl [1, 2, 0] rfl)
              · have c_18 := (zb_t c_18)
                replace hf := ifp c_18 hf
                refine lv_iconst (v := iI 0) hx hb d_Ex_haveDifferentNames_39 (by decide) ?_
                refine W.eq (g2 := F0 m 40 ls [.int (bI false)]) (by rfl) ?_
                have hf := ob_lS hf hk12
                exact ex_W (fun _ h => ex_mq h) (W.zret (v := bI false) hx hb hr (bI_nar _) (fun t ht hW => ⟨⟨_, ozr hf ⟨trivial, rfl, rfl⟩, by rw [ht]; exact hP_9, hD_9⟩, hS_9.F ht⟩) hS_9.2.2 d_Ex_haveDifferentNames_40)
        exact loop_12 fu 0 (show R32 (0) by decide) _ rfl hf _ _ hP_5 hD_5 hS_5 _ (lv_sub hl [1, 2, 0] rfl)
  exact loop_2 fu 0 (show R32 (0) by decide) hf _ _ hP hD hS _ (lv_sub hl [1, 0] rfl)
