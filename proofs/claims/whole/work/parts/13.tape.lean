def xput4 (f : Nat → Int32) (t : Nat) (v : Int32) : Nat → Int32 := upd (upd (upd (upd f t (v >>> (24 &&& 31)).toInt8.toInt32) (t + 1) (v >>> (16 &&& 31)).toInt8.toInt32) (t + 1 + 1) (v >>> (8 &&& 31)).toInt8.toInt32) (t + 1 + 1 + 1) (v >>> (0 &&& 31)).toInt8.toInt32
abbrev b_WR_putInt : ByteArray := prog_1_method_11_code
def y_WR_putInt : MethodName := ⟨R_WR, "putInt", "(I)V"⟩
abbrev b_WR_feed : ByteArray := prog_1_method_2_code
def y_WR_feed : MethodName := ⟨R_WR, "feed", "(IIIII)I"⟩
abbrev b_WR_end : ByteArray := prog_1_method_3_code
def y_WR_end : MethodName := ⟨R_WR, "end", "(I)I"⟩
theorem d_WR_putInt_0 : decode b_WR_putInt 0 = .ok (.bipush 24, 2) := by decide +kernel
theorem d_WR_putInt_2 : decode b_WR_putInt 2 = .ok (.istore_n 2, 1) := by decide +kernel
theorem d_WR_putInt_3 : decode b_WR_putInt 3 = .ok (.iload_n 2, 1) := by decide +kernel
theorem d_WR_putInt_4 : decode b_WR_putInt 4 = .ok (.ifCond .lt 32, 3) := by decide +kernel
theorem d_WR_putInt_7 : decode b_WR_putInt 7 = .ok (.aload_n 0, 1) := by decide +kernel
theorem d_WR_putInt_8 : decode b_WR_putInt 8 = .ok (.getfield 9, 3) := by decide +kernel
theorem d_WR_putInt_11 : decode b_WR_putInt 11 = .ok (.aload_n 0, 1) := by decide +kernel
theorem d_WR_putInt_12 : decode b_WR_putInt 12 = .ok (.getfield 48, 3) := by decide +kernel
theorem d_WR_putInt_15 : decode b_WR_putInt 15 = .ok (.iload_n 1, 1) := by decide +kernel
theorem d_WR_putInt_16 : decode b_WR_putInt 16 = .ok (.iload_n 2, 1) := by decide +kernel
theorem d_WR_putInt_17 : decode b_WR_putInt 17 = .ok (.ishr, 1) := by decide +kernel
theorem d_WR_putInt_18 : decode b_WR_putInt 18 = .ok (.i2b, 1) := by decide +kernel
theorem d_WR_putInt_19 : decode b_WR_putInt 19 = .ok (.bastore, 1) := by decide +kernel
theorem d_WR_putInt_20 : decode b_WR_putInt 20 = .ok (.aload_n 0, 1) := by decide +kernel
theorem d_WR_putInt_21 : decode b_WR_putInt 21 = .ok (.dup, 1) := by decide +kernel
theorem d_WR_putInt_22 : decode b_WR_putInt 22 = .ok (.getfield 48, 3) := by decide +kernel
theorem d_WR_putInt_25 : decode b_WR_putInt 25 = .ok (.iconst 1, 1) := by decide +kernel
theorem d_WR_putInt_26 : decode b_WR_putInt 26 = .ok (.iadd, 1) := by decide +kernel
theorem d_WR_putInt_27 : decode b_WR_putInt 27 = .ok (.putfield 48, 3) := by decide +kernel
theorem d_WR_putInt_30 : decode b_WR_putInt 30 = .ok (.iinc 2 (-8), 3) := by decide +kernel
theorem d_WR_putInt_33 : decode b_WR_putInt 33 = .ok (.goto (-30), 3) := by decide +kernel
theorem d_WR_putInt_36 : decode b_WR_putInt 36 = .ok (.return_, 1) := by decide +kernel
theorem d_WR_feed_0 : decode b_WR_feed 0 = .ok (.aload_n 0, 1) := by decide +kernel
theorem d_WR_feed_1 : decode b_WR_feed 1 = .ok (.getfield 48, 3) := by decide +kernel
theorem d_WR_feed_4 : decode b_WR_feed 4 = .ok (.bipush 20, 2) := by decide +kernel
theorem d_WR_feed_6 : decode b_WR_feed 6 = .ok (.iadd, 1) := by decide +kernel
theorem d_WR_feed_7 : decode b_WR_feed 7 = .ok (.sipush 2000, 3) := by decide +kernel
theorem d_WR_feed_10 : decode b_WR_feed 10 = .ok (.if_icmp .le 13, 3) := by decide +kernel
theorem d_WR_feed_13 : decode b_WR_feed 13 = .ok (.new 52, 3) := by decide +kernel
theorem d_WR_feed_16 : decode b_WR_feed 16 = .ok (.dup, 1) := by decide +kernel
theorem d_WR_feed_17 : decode b_WR_feed 17 = .ok (.ldc 54, 2) := by decide +kernel
theorem d_WR_feed_19 : decode b_WR_feed 19 = .ok (.invokespecial 56, 3) := by decide +kernel
theorem d_WR_feed_22 : decode b_WR_feed 22 = .ok (.athrow, 1) := by decide +kernel
theorem d_WR_feed_23 : decode b_WR_feed 23 = .ok (.aload_n 0, 1) := by decide +kernel
theorem d_WR_feed_24 : decode b_WR_feed 24 = .ok (.iload_n 1, 1) := by decide +kernel
theorem d_WR_feed_25 : decode b_WR_feed 25 = .ok (.invokevirtual 59, 3) := by decide +kernel
theorem d_WR_feed_28 : decode b_WR_feed 28 = .ok (.aload_n 0, 1) := by decide +kernel
theorem d_WR_feed_29 : decode b_WR_feed 29 = .ok (.iload_n 2, 1) := by decide +kernel
theorem d_WR_feed_30 : decode b_WR_feed 30 = .ok (.invokevirtual 59, 3) := by decide +kernel
theorem d_WR_feed_33 : decode b_WR_feed 33 = .ok (.aload_n 0, 1) := by decide +kernel
theorem d_WR_feed_34 : decode b_WR_feed 34 = .ok (.iload_n 3, 1) := by decide +kernel
theorem d_WR_feed_35 : decode b_WR_feed 35 = .ok (.invokevirtual 59, 3) := by decide +kernel
theorem d_WR_feed_38 : decode b_WR_feed 38 = .ok (.aload_n 0, 1) := by decide +kernel
theorem d_WR_feed_39 : decode b_WR_feed 39 = .ok (.iload 4, 2) := by decide +kernel
theorem d_WR_feed_41 : decode b_WR_feed 41 = .ok (.invokevirtual 59, 3) := by decide +kernel
theorem d_WR_feed_44 : decode b_WR_feed 44 = .ok (.aload_n 0, 1) := by decide +kernel
theorem d_WR_feed_45 : decode b_WR_feed 45 = .ok (.iload 5, 2) := by decide +kernel
theorem d_WR_feed_47 : decode b_WR_feed 47 = .ok (.invokevirtual 59, 3) := by decide +kernel
theorem d_WR_feed_50 : decode b_WR_feed 50 = .ok (.aload_n 0, 1) := by decide +kernel
theorem d_WR_feed_51 : decode b_WR_feed 51 = .ok (.getfield 48, 3) := by decide +kernel
theorem d_WR_feed_54 : decode b_WR_feed 54 = .ok (.ireturn, 1) := by decide +kernel
theorem d_WR_end_0 : decode b_WR_end 0 = .ok (.iload_n 1, 1) := by decide +kernel
theorem d_WR_end_1 : decode b_WR_end 1 = .ok (.ifCond .lt 11, 3) := by decide +kernel
theorem d_WR_end_4 : decode b_WR_end 4 = .ok (.iload_n 1, 1) := by decide +kernel
theorem d_WR_end_5 : decode b_WR_end 5 = .ok (.aload_n 0, 1) := by decide +kernel
theorem d_WR_end_6 : decode b_WR_end 6 = .ok (.getfield 48, 3) := by decide +kernel
theorem d_WR_end_9 : decode b_WR_end 9 = .ok (.if_icmp .le 13, 3) := by decide +kernel
theorem d_WR_end_12 : decode b_WR_end 12 = .ok (.new 63, 3) := by decide +kernel
theorem d_WR_end_15 : decode b_WR_end 15 = .ok (.dup, 1) := by decide +kernel
theorem d_WR_end_16 : decode b_WR_end 16 = .ok (.ldc 65, 2) := by decide +kernel
theorem d_WR_end_18 : decode b_WR_end 18 = .ok (.invokespecial 67, 3) := by decide +kernel
theorem d_WR_end_21 : decode b_WR_end 21 = .ok (.athrow, 1) := by decide +kernel
theorem d_WR_end_22 : decode b_WR_end 22 = .ok (.aload_n 0, 1) := by decide +kernel
theorem d_WR_end_23 : decode b_WR_end 23 = .ok (.iload_n 1, 1) := by decide +kernel
theorem d_WR_end_24 : decode b_WR_end 24 = .ok (.putfield 48, 3) := by decide +kernel
theorem d_WR_end_27 : decode b_WR_end 27 = .ok (.iload_n 1, 1) := by decide +kernel
theorem d_WR_end_28 : decode b_WR_end 28 = .ok (.ireturn, 1) := by decide +kernel
theorem m_419 : Cond.fieldLink R_WR 48 "WaferRunner" "tapeLength" "I" ∈ lw_good := lw_in (List.mem_append_right _ (List.mem_of_getElem? (i := 419) (by decide +kernel))) (by decide +kernel)
theorem m_545 : Cond.code y_WR_putInt b_WR_putInt 3 none ∈ lw_good := lw_in (List.mem_append_right _ (List.mem_of_getElem? (i := 545) (by decide +kernel))) (by decide +kernel)
theorem m_542 : Cond.methodLink R_WR 59 y_WR_putInt ∈ lw_good := lw_in (List.mem_append_right _ (List.mem_of_getElem? (i := 542) (by decide +kernel))) (by decide +kernel)
theorem m_1 : Cond.initialized R_WR ∈ lw_good := lw_in (List.mem_append_right _ (List.mem_of_getElem? (i := 1) (by decide +kernel))) (by decide +kernel)
theorem m_544 : Cond.instanceMethod y_WR_putInt ∈ lw_good := lw_in (List.mem_append_right _ (List.mem_of_getElem? (i := 544) (by decide +kernel))) (by decide +kernel)
theorem ms_WR_putInt : Cond.selects R_WR y_WR_putInt y_WR_putInt ∈ lw_good := lw_in (by decide +kernel) (by decide +kernel)
theorem m_472 : Cond.classLink R_WR 52 "java/lang/IndexOutOfBoundsException" ∈ lw_good := lw_in (List.mem_append_right _ (List.mem_of_getElem? (i := 472) (by decide +kernel))) (by decide +kernel)
theorem m_473 : Cond.instantiable "java/lang/IndexOutOfBoundsException" 6 ∈ lw_good := lw_in (List.mem_append_right _ (List.mem_of_getElem? (i := 473) (by decide +kernel))) (by decide +kernel)
theorem m_17 : Cond.initialized "java/lang/IndexOutOfBoundsException" ∈ lw_good := lw_in (List.mem_append_right _ (List.mem_of_getElem? (i := 17) (by decide +kernel))) (by decide +kernel)
theorem m_554 : Cond.classLink R_WR 63 "java/lang/IllegalArgumentException" ∈ lw_good := lw_in (List.mem_append_right _ (List.mem_of_getElem? (i := 554) (by decide +kernel))) (by decide +kernel)
theorem m_555 : Cond.instantiable "java/lang/IllegalArgumentException" 6 ∈ lw_good := lw_in (List.mem_append_right _ (List.mem_of_getElem? (i := 555) (by decide +kernel))) (by decide +kernel)
theorem m_18 : Cond.initialized "java/lang/IllegalArgumentException" ∈ lw_good := lw_in (List.mem_append_right _ (List.mem_of_getElem? (i := 18) (by decide +kernel))) (by decide +kernel)
theorem tx_54 : (R_WR, 54, "the tape would be too long") ∈ xtexts := by decide +kernel
theorem tx_65 : (R_WR, 65, "not a length that the tape can keep") ∈ xtexts := by decide +kernel
theorem at_R_WR_56 : ∀ w ∈ Bundle.ownAtoms R_WR 56 "java/lang/IndexOutOfBoundsException" ["java/lang/RuntimeException", "java/lang/Exception"], xE_in w := by unfold xE_in; decide +kernel
theorem at_R_WR_67 : ∀ w ∈ Bundle.ownAtoms R_WR 67 "java/lang/IllegalArgumentException" ["java/lang/RuntimeException", "java/lang/Exception"], xE_in w := by unfold xE_in; decide +kernel
set_option maxHeartbeats 8000000 in
set_option maxRecDepth 100000 in
theorem c_WR_putInt (l : Launch) (htr : l.stackTraces = false) (G : va_G) (cB cI cJ cZ : ClassId) (h0 : Nat) (tp : Nat) (ar : Nat) (rd : Nat) (va : Nat) (ma : Nat) (cu : Nat) (sp : Nat) (t : Nat) (ac : Int32) (ld : Int32) (rs : Int32) (v : Int32) (f : Nat → Int32) (ht : t + 4 ≤ 2000) (sz : Nat) : MetX l y_WR_putInt (wx y_WR_putInt b_WR_putInt 3 none) { frames := 0, cells := 0, slots := 0, locals := 0 } (XP G classes (xtys cB cI cJ cZ) xE [.ref h0, .int v] [(h0, .inr (0, [.ref tp, .int (nI t), .ref ar, .int ac, .ref rd, .ref va, .ref ma, .ref cu, .ref sp, .int ld, .int rs])), (tp, .inl (cB, 2000, .inl f))] sz) (XQ G classes (va_A [(h0, .inr (0, [.ref tp, .int (nI t), .ref ar, .int ac, .ref rd, .ref va, .ref ma, .ref cu, .ref sp, .int ld, .int rs])), (tp, .inl (cB, 2000, .inl f))] sz) (fun o w1 => o = .returned none ∧ w1 = [(h0, .inr (0, [.ref tp, .int (nI (t + 4)), .ref ar, .int ac, .ref rd, .ref va, .ref ma, .ref cu, .ref sp, .int ld, .int rs])), (tp, .inl (cB, 2000, .inl (xput4 f t v)))])) 0 0 (va_A [(h0, .inr (0, [.ref tp, .int (nI t), .ref ar, .int ac, .ref rd, .ref va, .ref ma, .ref cu, .ref sp, .int ld, .int rs])), (tp, .inl (cB, 2000, .inl f))] sz) := by
  refine ex_ofW (cc := b_WR_putInt) (maxL := 3) (ret := none) (by decide) rfl ?_
  intro p e s m args below meth c s₁ B hml hno hv
  obtain ⟨rfl, hsz, hP, hK, hD0, hE⟩ := hv
  have hx := B.exec
  have hb := B.bytes
  have hr := B.returns
  have hts : ∀ w ∈ lw_good, w.before _ s = true := fun w h => atoms_spec (ws := wx y_WR_putInt b_WR_putInt 3 none) B.pre w (List.mem_cons_of_mem _ h)
  have hown : s.vm.findClass R_WR = some m.cls := findClass_of_methodNamed B.named
  have hlocks := B.notSynchronized
  have htr9 : e.platform.stackTraces = false := by rw [B.admits.platform]; exact htr
  subst hsz
  have hNS := xx_nostat hP
  have hD := hD0.self (sz := s.heap.size)
  generalize hAe : va_A [(h0, .inr (0, [.ref tp, .int (nI t), .ref ar, .int ac, .ref rd, .ref va, .ref ma, .ref cu, .ref sp, .int ld, .int rs])), (tp, .inl (cB, 2000, .inl f))] s.heap.size = A at hD hE hNS ⊢
  have hA : ∀ q : Nat, s.heap.size ≤ q → A q := fun q h => by rw [← hAe]; exact Or.inr h
  have hS : va_S A s.heap s.heap [] := va_S.rf
  have hl := lv_entry ([.ref h0, .int v]) (n := 3) (Nat.le_of_ble_eq_true rfl)
  rw [lg_entry_eq]
  generalize (lg_sl ([.ref h0, .int v]) ++ List.replicate (3 - (lg_sl ([.ref h0, .int v])).length) Slot.unset).toArray = ls at hl ⊢
  have hl : lv_has ls 3 [(0, .ref h0), (1, .int v)] := hl
  refine lv_bipush (v := 24) hx hb d_WR_putInt_0 (by decide) ?_
  refine lv_istore_n (lv' := [(2, .int 24), (0, .ref h0), (1, .int v)]) hx hb d_WR_putInt_2 rfl hl (by decide) rfl (fun ls hl => ?_)
  refine lv_iload_n hx hb d_WR_putInt_3 rfl (lv_at hl 0 rfl) ?_
  refine lv_if_lt (tgt := 36) hx hb d_WR_putInt_4 (by decide) (fun c_1 => absurd c_1 (by decide)) (fun c_1 => ?_)
  refine lv_aload_n hx hb d_WR_putInt_7 rfl (lv_at hl 1 rfl) ?_
  refine va_get (D := G) (ci := 0) (v := .ref tp) (C := R_WR) (T := F_WR) (N := 11) hx hb hts i_WR hown hK hP 0 rfl rfl 0 (by decide) (hts _ m_418) (fun _ h9 => h9) rfl d_WR_putInt_8 ?_
  refine lv_aload_n hx hb d_WR_putInt_11 rfl (lv_at hl 1 rfl) ?_
  refine va_get (D := G) (ci := 0) (v := .int (nI t)) (C := R_WR) (T := F_WR) (N := 11) hx hb hts i_WR hown hK hP 0 rfl rfl 1 (by decide) (hts _ m_419) (fun _ h9 => h9) rfl d_WR_putInt_12 ?_
  refine lv_iload_n hx hb d_WR_putInt_15 rfl (lv_at hl 2 rfl) ?_
  refine lv_iload_n hx hb d_WR_putInt_16 rfl (lv_at hl 0 rfl) ?_
  refine lv_ishr hx hb d_WR_putInt_17 ?_
  refine lv_i2b hx hb d_WR_putInt_18 rfl ?_
  refine va_bast hx hb hK hP hD hS 1 0 rfl rfl (vp_in_nI (show t < 2000 by omega) (by decide)) d_WR_putInt_19 (fun H locs hP hD hS => ?_)
  rw [pk_vb, nI_clamp (show t < 2 ^ 31 by omega)] at hP hD
  have hP : va_P G classes [(h0, .inr (0, [.ref tp, .int (nI t), .ref ar, .int ac, .ref rd, .ref va, .ref ma, .ref cu, .ref sp, .int ld, .int rs])), (tp, .inl (cB, 2000, .inl (upd f t ((v >>> (24 &&& 31)).toInt8.toInt32))))] H := hP
  have hD : va_D A [(h0, .inr (0, [.ref tp, .int (nI t), .ref ar, .int ac, .ref rd, .ref va, .ref ma, .ref cu, .ref sp, .int ld, .int rs])), (tp, .inl (cB, 2000, .inl (upd f t ((v >>> (24 &&& 31)).toInt8.toInt32))))] := hD
  refine lv_aload_n hx hb d_WR_putInt_20 rfl (lv_at hl 1 rfl) ?_
  refine lv_dup hx hb d_WR_putInt_21 rfl ?_
  refine va_get (D := G) (ci := 0) (v := .int (nI t)) (C := R_WR) (T := F_WR) (N := 11) hx hb hts i_WR hown hK hP 0 rfl rfl 1 (by decide) (hts _ m_419) (fun _ h9 => h9) rfl d_WR_putInt_22 ?_
  refine lv_iconst (v := 1) hx hb d_WR_putInt_25 (by decide) ?_
  refine lv_iadd hx hb d_WR_putInt_26 ?_
  refine lv_topi (fun x9 e_2 => ?_)
  obtain rfl : x9 = nI (t + 1) := e_2.trans (nI_add _ 1)
  refine va_put (D := G) (ci := 0) (v := .int (nI (t + 1))) (ty := .int) (C := R_WR) (T := F_WR) (N := 11) hx hb hts i_WR t_WR t_WR_ok n_WR hown hK hP hD hS 0 rfl rfl 1 (by decide) (hts _ m_419) (fun _ h9 => h9) rfl (by decide +kernel) rfl rfl (Nat.le_of_ble_eq_true rfl) d_WR_putInt_27 (fun H locs hP hD hS => ?_)
  have hP : va_P G classes [(h0, .inr (0, [.ref tp, .int (nI (t + 1)), .ref ar, .int ac, .ref rd, .ref va, .ref ma, .ref cu, .ref sp, .int ld, .int rs])), (tp, .inl (cB, 2000, .inl (upd f t ((v >>> (24 &&& 31)).toInt8.toInt32))))] H := hP
  have hD : va_D A [(h0, .inr (0, [.ref tp, .int (nI (t + 1)), .ref ar, .int ac, .ref rd, .ref va, .ref ma, .ref cu, .ref sp, .int ld, .int rs])), (tp, .inl (cB, 2000, .inl (upd f t ((v >>> (24 &&& 31)).toInt8.toInt32))))] := hD
  refine lv_iinc (v := 16) (lv' := [(2, .int 16), (0, .ref h0), (1, .int v)]) hx hb d_WR_putInt_30 hl (k := 0) rfl (by first | rfl | decide | exact nI_add _ _) (by decide) rfl (fun ls hl => ?_)
  refine lv_goto (tgt := 3) hx hb d_WR_putInt_33 (by decide) ?_
  refine lv_iload_n hx hb d_WR_putInt_3 rfl (lv_at hl 0 rfl) ?_
  refine lv_if_lt (tgt := 36) hx hb d_WR_putInt_4 (by decide) (fun c_3 => absurd c_3 (by decide)) (fun c_3 => ?_)
  refine lv_aload_n hx hb d_WR_putInt_7 rfl (lv_at hl 1 rfl) ?_
  refine va_get (D := G) (ci := 0) (v := .ref tp) (C := R_WR) (T := F_WR) (N := 11) hx hb hts i_WR hown hK hP 0 rfl rfl 0 (by decide) (hts _ m_418) (fun _ h9 => h9) rfl d_WR_putInt_8 ?_
  refine lv_aload_n hx hb d_WR_putInt_11 rfl (lv_at hl 1 rfl) ?_
  refine va_get (D := G) (ci := 0) (v := .int (nI (t + 1))) (C := R_WR) (T := F_WR) (N := 11) hx hb hts i_WR hown hK hP 0 rfl rfl 1 (by decide) (hts _ m_419) (fun _ h9 => h9) rfl d_WR_putInt_12 ?_
  refine lv_iload_n hx hb d_WR_putInt_15 rfl (lv_at hl 2 rfl) ?_
  refine lv_iload_n hx hb d_WR_putInt_16 rfl (lv_at hl 0 rfl) ?_
  refine lv_ishr hx hb d_WR_putInt_17 ?_
  refine lv_i2b hx hb d_WR_putInt_18 rfl ?_
  refine va_bast hx hb hK hP hD hS 1 0 rfl rfl (vp_in_nI (show t + 1 < 2000 by omega) (by decide)) d_WR_putInt_19 (fun H locs hP hD hS => ?_)
  rw [pk_vb, nI_clamp (show t + 1 < 2 ^ 31 by omega)] at hP hD
  have hP : va_P G classes [(h0, .inr (0, [.ref tp, .int (nI (t + 1)), .ref ar, .int ac, .ref rd, .ref va, .ref ma, .ref cu, .ref sp, .int ld, .int rs])), (tp, .inl (cB, 2000, .inl (upd (upd f t ((v >>> (24 &&& 31)).toInt8.toInt32)) (t + 1) ((v >>> (16 &&& 31)).toInt8.toInt32))))] H := hP
  have hD : va_D A [(h0, .inr (0, [.ref tp, .int (nI (t + 1)), .ref ar, .int ac, .ref rd, .ref va, .ref ma, .ref cu, .ref sp, .int ld, .int rs])), (tp, .inl (cB, 2000, .inl (upd (upd f t ((v >>> (24 &&& 31)).toInt8.toInt32)) (t + 1) ((v >>> (16 &&& 31)).toInt8.toInt32))))] := hD
  refine lv_aload_n hx hb d_WR_putInt_20 rfl (lv_at hl 1 rfl) ?_
  refine lv_dup hx hb d_WR_putInt_21 rfl ?_
  refine va_get (D := G) (ci := 0) (v := .int (nI (t + 1))) (C := R_WR) (T := F_WR) (N := 11) hx hb hts i_WR hown hK hP 0 rfl rfl 1 (by decide) (hts _ m_419) (fun _ h9 => h9) rfl d_WR_putInt_22 ?_
  refine lv_iconst (v := 1) hx hb d_WR_putInt_25 (by decide) ?_
  refine lv_iadd hx hb d_WR_putInt_26 ?_
  refine lv_topi (fun x9 e_4 => ?_)
  obtain rfl : x9 = nI (t + 1 + 1) := e_4.trans (nI_add _ 1)
  refine va_put (D := G) (ci := 0) (v := .int (nI (t + 1 + 1))) (ty := .int) (C := R_WR) (T := F_WR) (N := 11) hx hb hts i_WR t_WR t_WR_ok n_WR hown hK hP hD hS 0 rfl rfl 1 (by decide) (hts _ m_419) (fun _ h9 => h9) rfl (by decide +kernel) rfl rfl (Nat.le_of_ble_eq_true rfl) d_WR_putInt_27 (fun H locs hP hD hS => ?_)
  have hP : va_P G classes [(h0, .inr (0, [.ref tp, .int (nI (t + 1 + 1)), .ref ar, .int ac, .ref rd, .ref va, .ref ma, .ref cu, .ref sp, .int ld, .int rs])), (tp, .inl (cB, 2000, .inl (upd (upd f t ((v >>> (24 &&& 31)).toInt8.toInt32)) (t + 1) ((v >>> (16 &&& 31)).toInt8.toInt32))))] H := hP
  have hD : va_D A [(h0, .inr (0, [.ref tp, .int (nI (t + 1 + 1)), .ref ar, .int ac, .ref rd, .ref va, .ref ma, .ref cu, .ref sp, .int ld, .int rs])), (tp, .inl (cB, 2000, .inl (upd (upd f t ((v >>> (24 &&& 31)).toInt8.toInt32)) (t + 1) ((v >>> (16 &&& 31)).toInt8.toInt32))))] := hD
  refine lv_iinc (v := 8) (lv' := [(2, .int 8), (0, .ref h0), (1, .int v)]) hx hb d_WR_putInt_30 hl (k := 0) rfl (by first | rfl | decide | exact nI_add _ _) (by decide) rfl (fun ls hl => ?_)
  refine lv_goto (tgt := 3) hx hb d_WR_putInt_33 (by decide) ?_
  refine lv_iload_n hx hb d_WR_putInt_3 rfl (lv_at hl 0 rfl) ?_
  refine lv_if_lt (tgt := 36) hx hb d_WR_putInt_4 (by decide) (fun c_5 => absurd c_5 (by decide)) (fun c_5 => ?_)
  refine lv_aload_n hx hb d_WR_putInt_7 rfl (lv_at hl 1 rfl) ?_
  refine va_get (D := G) (ci := 0) (v := .ref tp) (C := R_WR) (T := F_WR) (N := 11) hx hb hts i_WR hown hK hP 0 rfl rfl 0 (by decide) (hts _ m_418) (fun _ h9 => h9) rfl d_WR_putInt_8 ?_
  refine lv_aload_n hx hb d_WR_putInt_11 rfl (lv_at hl 1 rfl) ?_
  refine va_get (D := G) (ci := 0) (v := .int (nI (t + 1 + 1))) (C := R_WR) (T := F_WR) (N := 11) hx hb hts i_WR hown hK hP 0 rfl rfl 1 (by decide) (hts _ m_419) (fun _ h9 => h9) rfl d_WR_putInt_12 ?_
  refine lv_iload_n hx hb d_WR_putInt_15 rfl (lv_at hl 2 rfl) ?_
  refine lv_iload_n hx hb d_WR_putInt_16 rfl (lv_at hl 0 rfl) ?_
  refine lv_ishr hx hb d_WR_putInt_17 ?_
  refine lv_i2b hx hb d_WR_putInt_18 rfl ?_
  refine va_bast hx hb hK hP hD hS 1 0 rfl rfl (vp_in_nI (show t + 1 + 1 < 2000 by omega) (by decide)) d_WR_putInt_19 (fun H locs hP hD hS => ?_)
  rw [pk_vb, nI_clamp (show t + 1 + 1 < 2 ^ 31 by omega)] at hP hD
  have hP : va_P G classes [(h0, .inr (0, [.ref tp, .int (nI (t + 1 + 1)), .ref ar, .int ac, .ref rd, .ref va, .ref ma, .ref cu, .ref sp, .int ld, .int rs])), (tp, .inl (cB, 2000, .inl (upd (upd (upd f t ((v >>> (24 &&& 31)).toInt8.toInt32)) (t + 1) ((v >>> (16 &&& 31)).toInt8.toInt32)) (t + 1 + 1) ((v >>> (8 &&& 31)).toInt8.toInt32))))] H := hP
  have hD : va_D A [(h0, .inr (0, [.ref tp, .int (nI (t + 1 + 1)), .ref ar, .int ac, .ref rd, .ref va, .ref ma, .ref cu, .ref sp, .int ld, .int rs])), (tp, .inl (cB, 2000, .inl (upd (upd (upd f t ((v >>> (24 &&& 31)).toInt8.toInt32)) (t + 1) ((v >>> (16 &&& 31)).toInt8.toInt32)) (t + 1 + 1) ((v >>> (8 &&& 31)).toInt8.toInt32))))] := hD
  refine lv_aload_n hx hb d_WR_putInt_20 rfl (lv_at hl 1 rfl) ?_
  refine lv_dup hx hb d_WR_putInt_21 rfl ?_
  refine va_get (D := G) (ci := 0) (v := .int (nI (t + 1 + 1))) (C := R_WR) (T := F_WR) (N := 11) hx hb hts i_WR hown hK hP 0 rfl rfl 1 (by decide) (hts _ m_419) (fun _ h9 => h9) rfl d_WR_putInt_22 ?_
  refine lv_iconst (v := 1) hx hb d_WR_putInt_25 (by decide) ?_
  refine lv_iadd hx hb d_WR_putInt_26 ?_
  refine lv_topi (fun x9 e_6 => ?_)
  obtain rfl : x9 = nI (t + 1 + 1 + 1) := e_6.trans (nI_add _ 1)
  refine va_put (D := G) (ci := 0) (v := .int (nI (t + 1 + 1 + 1))) (ty := .int) (C := R_WR) (T := F_WR) (N := 11) hx hb hts i_WR t_WR t_WR_ok n_WR hown hK hP hD hS 0 rfl rfl 1 (by decide) (hts _ m_419) (fun _ h9 => h9) rfl (by decide +kernel) rfl rfl (Nat.le_of_ble_eq_true rfl) d_WR_putInt_27 (fun H locs hP hD hS => ?_)
  have hP : va_P G classes [(h0, .inr (0, [.ref tp, .int (nI (t + 1 + 1 + 1)), .ref ar, .int ac, .ref rd, .ref va, .ref ma, .ref cu, .ref sp, .int ld, .int rs])), (tp, .inl (cB, 2000, .inl (upd (upd (upd f t ((v >>> (24 &&& 31)).toInt8.toInt32)) (t + 1) ((v >>> (16 &&& 31)).toInt8.toInt32)) (t + 1 + 1) ((v >>> (8 &&& 31)).toInt8.toInt32))))] H := hP
  have hD : va_D A [(h0, .inr (0, [.ref tp, .int (nI (t + 1 + 1 + 1)), .ref ar, .int ac, .ref rd, .ref va, .ref ma, .ref cu, .ref sp, .int ld, .int rs])), (tp, .inl (cB, 2000, .inl (upd (upd (upd f t ((v >>> (24 &&& 31)).toInt8.toInt32)) (t + 1) ((v >>> (16 &&& 31)).toInt8.toInt32)) (t + 1 + 1) ((v >>> (8 &&& 31)).toInt8.toInt32))))] := hD
  refine lv_iinc (v := 0) (lv' := [(2, .int 0), (0, .ref h0), (1, .int v)]) hx hb d_WR_putInt_30 hl (k := 0) rfl (by first | rfl | decide | exact nI_add _ _) (by decide) rfl (fun ls hl => ?_)
  refine lv_goto (tgt := 3) hx hb d_WR_putInt_33 (by decide) ?_
  refine lv_iload_n hx hb d_WR_putInt_3 rfl (lv_at hl 0 rfl) ?_
  refine lv_if_lt (tgt := 36) hx hb d_WR_putInt_4 (by decide) (fun c_7 => absurd c_7 (by decide)) (fun c_7 => ?_)
  refine lv_aload_n hx hb d_WR_putInt_7 rfl (lv_at hl 1 rfl) ?_
  refine va_get (D := G) (ci := 0) (v := .ref tp) (C := R_WR) (T := F_WR) (N := 11) hx hb hts i_WR hown hK hP 0 rfl rfl 0 (by decide) (hts _ m_418) (fun _ h9 => h9) rfl d_WR_putInt_8 ?_
  refine lv_aload_n hx hb d_WR_putInt_11 rfl (lv_at hl 1 rfl) ?_
  refine va_get (D := G) (ci := 0) (v := .int (nI (t + 1 + 1 + 1))) (C := R_WR) (T := F_WR) (N := 11) hx hb hts i_WR hown hK hP 0 rfl rfl 1 (by decide) (hts _ m_419) (fun _ h9 => h9) rfl d_WR_putInt_12 ?_
  refine lv_iload_n hx hb d_WR_putInt_15 rfl (lv_at hl 2 rfl) ?_
  refine lv_iload_n hx hb d_WR_putInt_16 rfl (lv_at hl 0 rfl) ?_
  refine lv_ishr hx hb d_WR_putInt_17 ?_
  refine lv_i2b hx hb d_WR_putInt_18 rfl ?_
  refine va_bast hx hb hK hP hD hS 1 0 rfl rfl (vp_in_nI (show t + 1 + 1 + 1 < 2000 by omega) (by decide)) d_WR_putInt_19 (fun H locs hP hD hS => ?_)
  rw [pk_vb, nI_clamp (show t + 1 + 1 + 1 < 2 ^ 31 by omega)] at hP hD
  have hP : va_P G classes [(h0, .inr (0, [.ref tp, .int (nI (t + 1 + 1 + 1)), .ref ar, .int ac, .ref rd, .ref va, .ref ma, .ref cu, .ref sp, .int ld, .int rs])), (tp, .inl (cB, 2000, .inl (upd (upd (upd (upd f t ((v >>> (24 &&& 31)).toInt8.toInt32)) (t + 1) ((v >>> (16 &&& 31)).toInt8.toInt32)) (t + 1 + 1) ((v >>> (8 &&& 31)).toInt8.toInt32)) (t + 1 + 1 + 1) ((v >>> (0 &&& 31)).toInt8.toInt32))))] H := hP
  have hD : va_D A [(h0, .inr (0, [.ref tp, .int (nI (t + 1 + 1 + 1)), .ref ar, .int ac, .ref rd, .ref va, .ref ma, .ref cu, .ref sp, .int ld, .int rs])), (tp, .inl (cB, 2000, .inl (upd (upd (upd (upd f t ((v >>> (24 &&& 31)).toInt8.toInt32)) (t + 1) ((v >>> (16 &&& 31)).toInt8.toInt32)) (t + 1 + 1) ((v >>> (8 &&& 31)).toInt8.toInt32)) (t + 1 + 1 + 1) ((v >>> (0 &&& 31)).toInt8.toInt32))))] := hD
  refine lv_aload_n hx hb d_WR_putInt_20 rfl (lv_at hl 1 rfl) ?_
  refine lv_dup hx hb d_WR_putInt_21 rfl ?_
  refine va_get (D := G) (ci := 0) (v := .int (nI (t + 1 + 1 + 1))) (C := R_WR) (T := F_WR) (N := 11) hx hb hts i_WR hown hK hP 0 rfl rfl 1 (by decide) (hts _ m_419) (fun _ h9 => h9) rfl d_WR_putInt_22 ?_
  refine lv_iconst (v := 1) hx hb d_WR_putInt_25 (by decide) ?_
  refine lv_iadd hx hb d_WR_putInt_26 ?_
  refine lv_topi (fun x9 e_8 => ?_)
  obtain rfl : x9 = nI (t + 1 + 1 + 1 + 1) := e_8.trans (nI_add _ 1)
  refine va_put (D := G) (ci := 0) (v := .int (nI (t + 1 + 1 + 1 + 1))) (ty := .int) (C := R_WR) (T := F_WR) (N := 11) hx hb hts i_WR t_WR t_WR_ok n_WR hown hK hP hD hS 0 rfl rfl 1 (by decide) (hts _ m_419) (fun _ h9 => h9) rfl (by decide +kernel) rfl rfl (Nat.le_of_ble_eq_true rfl) d_WR_putInt_27 (fun H locs hP hD hS => ?_)
  have hP : va_P G classes [(h0, .inr (0, [.ref tp, .int (nI (t + 1 + 1 + 1 + 1)), .ref ar, .int ac, .ref rd, .ref va, .ref ma, .ref cu, .ref sp, .int ld, .int rs])), (tp, .inl (cB, 2000, .inl (upd (upd (upd (upd f t ((v >>> (24 &&& 31)).toInt8.toInt32)) (t + 1) ((v >>> (16 &&& 31)).toInt8.toInt32)) (t + 1 + 1) ((v >>> (8 &&& 31)).toInt8.toInt32)) (t + 1 + 1 + 1) ((v >>> (0 &&& 31)).toInt8.toInt32))))] H := hP
  have hD : va_D A [(h0, .inr (0, [.ref tp, .int (nI (t + 1 + 1 + 1 + 1)), .ref ar, .int ac, .ref rd, .ref va, .ref ma, .ref cu, .ref sp, .int ld, .int rs])), (tp, .inl (cB, 2000, .inl (upd (upd (upd (upd f t ((v >>> (24 &&& 31)).toInt8.toInt32)) (t + 1) ((v >>> (16 &&& 31)).toInt8.toInt32)) (t + 1 + 1) ((v >>> (8 &&& 31)).toInt8.toInt32)) (t + 1 + 1 + 1) ((v >>> (0 &&& 31)).toInt8.toInt32))))] := hD
  refine lv_iinc (v := (-8)) (lv' := [(2, .int (-8)), (0, .ref h0), (1, .int v)]) hx hb d_WR_putInt_30 hl (k := 0) rfl (by first | rfl | decide | exact nI_add _ _) (by decide) rfl (fun ls hl => ?_)
  refine lv_goto (tgt := 3) hx hb d_WR_putInt_33 (by decide) ?_
  refine lv_iload_n hx hb d_WR_putInt_3 rfl (lv_at hl 0 rfl) ?_
  refine lv_if_lt (tgt := 36) hx hb d_WR_putInt_4 (by decide) (fun c_9 => ?_) (fun c_9 => absurd c_9 (by decide))
  exact ex_W (fun _ h => ex_mq h) (W.vret hx hb hr (fun t ht hW => ⟨⟨_, ⟨rfl, rfl⟩, by rw [ht]; exact hP, hD⟩, hS.F ht⟩) hS.2.2 d_WR_putInt_36)
set_option maxHeartbeats 8000000 in
set_option maxRecDepth 100000 in
theorem c_WR_feed (l : Launch) (htr : l.stackTraces = false) (G : va_G) (cB cI cJ cZ : ClassId) (h0 : Nat) (tp : Nat) (ar : Nat) (rd : Nat) (va : Nat) (ma : Nat) (cu : Nat) (sp : Nat) (t : Nat) (ac : Int32) (ld : Int32) (rs : Int32) (a0 : Int32) (a1 : Int32) (a2 : Int32) (a3 : Int32) (a4 : Int32) (f : Nat → Int32) (ht : t + 20 ≤ 2000) (sz : Nat) : MetX l y_WR_feed (wx y_WR_feed b_WR_feed 6 (some .int)) { frames := 1, cells := 0, slots := 0, locals := 22 } (XP G classes (xtys cB cI cJ cZ) xE [.ref h0, .int a0, .int a1, .int a2, .int a3, .int a4] [(h0, .inr (0, [.ref tp, .int (nI t), .ref ar, .int ac, .ref rd, .ref va, .ref ma, .ref cu, .ref sp, .int ld, .int rs])), (tp, .inl (cB, 2000, .inl f))] sz) (XQ G classes (va_A [(h0, .inr (0, [.ref tp, .int (nI t), .ref ar, .int ac, .ref rd, .ref va, .ref ma, .ref cu, .ref sp, .int ld, .int rs])), (tp, .inl (cB, 2000, .inl f))] sz) (fun o w1 => o = .returned (some (.int (nI (((((t + 4) + 4) + 4) + 4) + 4)))) ∧ w1 = [(h0, .inr (0, [.ref tp, .int (nI (((((t + 4) + 4) + 4) + 4) + 4)), .ref ar, .int ac, .ref rd, .ref va, .ref ma, .ref cu, .ref sp, .int ld, .int rs])), (tp, .inl (cB, 2000, .inl (xput4 (xput4 (xput4 (xput4 (xput4 f t a0) (t + 4) a1) ((t + 4) + 4) a2) (((t + 4) + 4) + 4) a3) ((((t + 4) + 4) + 4) + 4) a4)))])) 0 0 (va_A [(h0, .inr (0, [.ref tp, .int (nI t), .ref ar, .int ac, .ref rd, .ref va, .ref ma, .ref cu, .ref sp, .int ld, .int rs])), (tp, .inl (cB, 2000, .inl f))] sz) := by
  refine ex_ofW (cc := b_WR_feed) (maxL := 6) (ret := (some .int)) (by decide) rfl ?_
  intro p e s m args below meth c s₁ B hml hno hv
  obtain ⟨rfl, hsz, hP, hK, hD0, hE⟩ := hv
  have hx := B.exec
  have hb := B.bytes
  have hr := B.returns
  have hts : ∀ w ∈ lw_good, w.before _ s = true := fun w h => atoms_spec (ws := wx y_WR_feed b_WR_feed 6 (some .int)) B.pre w (List.mem_cons_of_mem _ h)
  have hown : s.vm.findClass R_WR = some m.cls := findClass_of_methodNamed B.named
  have hlocks := B.notSynchronized
  have htr9 : e.platform.stackTraces = false := by rw [B.admits.platform]; exact htr
  subst hsz
  have hNS := xx_nostat hP
  have hD := hD0.self (sz := s.heap.size)
  generalize hAe : va_A [(h0, .inr (0, [.ref tp, .int (nI t), .ref ar, .int ac, .ref rd, .ref va, .ref ma, .ref cu, .ref sp, .int ld, .int rs])), (tp, .inl (cB, 2000, .inl f))] s.heap.size = A at hD hE hNS ⊢
  have hA : ∀ q : Nat, s.heap.size ≤ q → A q := fun q h => by rw [← hAe]; exact Or.inr h
  have hS : va_S A s.heap s.heap [] := va_S.rf
  have hl := lv_entry ([.ref h0, .int a0, .int a1, .int a2, .int a3, .int a4]) (n := 6) (Nat.le_of_ble_eq_true rfl)
  rw [lg_entry_eq]
  generalize (lg_sl ([.ref h0, .int a0, .int a1, .int a2, .int a3, .int a4]) ++ List.replicate (6 - (lg_sl ([.ref h0, .int a0, .int a1, .int a2, .int a3, .int a4])).length) Slot.unset).toArray = ls at hl ⊢
  have hl : lv_has ls 6 [(0, .ref h0), (1, .int a0), (2, .int a1), (3, .int a2), (4, .int a3), (5, .int a4)] := hl
  refine lv_aload_n hx hb d_WR_feed_0 rfl (lv_at hl 0 rfl) ?_
  refine va_get (D := G) (ci := 0) (v := .int (nI t)) (C := R_WR) (T := F_WR) (N := 11) hx hb hts i_WR hown hK hP 0 rfl rfl 1 (by decide) (hts _ m_419) (fun _ h9 => h9) rfl d_WR_feed_1 ?_
  refine lv_bipush (v := 20) hx hb d_WR_feed_4 (by decide) ?_
  refine lv_iadd hx hb d_WR_feed_6 ?_
  refine lv_topi (fun x9 e_1 => ?_)
  obtain rfl : x9 = nI (t + 20) := e_1.trans (nI_add _ 20)
  refine lv_sipush (v := 2000) hx hb d_WR_feed_7 (by decide) ?_
  refine lv_icmp_le (tgt := 23) hx hb d_WR_feed_10 (by decide) (fun c_2 => ?_) (fun c_2 => absurd (nI_le (by omega) (by decide)) c_2)
  refine lv_aload_n hx hb d_WR_feed_23 rfl (lv_at hl 0 rfl) ?_
  refine lv_iload_n hx hb d_WR_feed_24 rfl (lv_at hl 1 rfl) ?_
  refine xx_callV (wc := [(h0, .inr (0, [.ref tp, .int (nI t), .ref ar, .int ac, .ref rd, .ref va, .ref ma, .ref cu, .ref sp, .int ld, .int rs])), (tp, .inl (cB, 2000, .inl f))]) (wr := []) (As := [.int a0]) (rest := []) ⟨hx, hb, hml, hown, hts⟩ xE_st hK hE hA (c_WR_putInt l htr G cB cI cJ cZ h0 tp ar rd va ma cu sp t ac ld rs a0 f (by omega) _) (xw_V 1 hts m_542 m_544 ms_WR_putInt m_1 m_545 (by decide +kernel) ⟨(Nat.le_of_ble_eq_true rfl), (Nat.le_of_ble_eq_true rfl)⟩) hP hD hS [0, 1] [] rfl rfl (by decide) (by decide) (by decide) 0 0 rfl rfl rfl rfl hl.1 rfl (Nat.le_of_ble_eq_true rfl) d_WR_feed_25 ⟨(Nat.le_of_ble_eq_true rfl), (Nat.le_of_ble_eq_true rfl)⟩ (fun v9 w9 H locs hp hP hD hS => ?_) (fun x9 w9 H9 l9 hp _ _ _ => absurd hp (by rintro ⟨ho, -⟩; cases ho))
  obtain ⟨ho, rfl⟩ := hp
  cases ho
  have hP : va_P G classes [(h0, .inr (0, [.ref tp, .int (nI (t + 4)), .ref ar, .int ac, .ref rd, .ref va, .ref ma, .ref cu, .ref sp, .int ld, .int rs])), (tp, .inl (cB, 2000, .inl (xput4 f t a0)))] H := hP
  have hD : va_D A [(h0, .inr (0, [.ref tp, .int (nI (t + 4)), .ref ar, .int ac, .ref rd, .ref va, .ref ma, .ref cu, .ref sp, .int ld, .int rs])), (tp, .inl (cB, 2000, .inl (xput4 f t a0)))] := hD
  refine lv_aload_n hx hb d_WR_feed_28 rfl (lv_at hl 0 rfl) ?_
  refine lv_iload_n hx hb d_WR_feed_29 rfl (lv_at hl 2 rfl) ?_
  refine xx_callV (wc := [(h0, .inr (0, [.ref tp, .int (nI (t + 4)), .ref ar, .int ac, .ref rd, .ref va, .ref ma, .ref cu, .ref sp, .int ld, .int rs])), (tp, .inl (cB, 2000, .inl (xput4 f t a0)))]) (wr := []) (As := [.int a1]) (rest := []) ⟨hx, hb, hml, hown, hts⟩ xE_st hK hE hA (c_WR_putInt l htr G cB cI cJ cZ h0 tp ar rd va ma cu sp (t + 4) ac ld rs a1 (xput4 f t a0) (by omega) _) (xw_V 1 hts m_542 m_544 ms_WR_putInt m_1 m_545 (by decide +kernel) ⟨(Nat.le_of_ble_eq_true rfl), (Nat.le_of_ble_eq_true rfl)⟩) hP hD hS [0, 1] [] rfl rfl (by decide) (by decide) (by decide) 0 0 rfl rfl rfl rfl hl.1 rfl (Nat.le_of_ble_eq_true rfl) d_WR_feed_30 ⟨(Nat.le_of_ble_eq_true rfl), (Nat.le_of_ble_eq_true rfl)⟩ (fun v9 w9 H locs hp hP hD hS => ?_) (fun x9 w9 H9 l9 hp _ _ _ => absurd hp (by rintro ⟨ho, -⟩; cases ho))
  obtain ⟨ho, rfl⟩ := hp
  cases ho
  have hP : va_P G classes [(h0, .inr (0, [.ref tp, .int (nI ((t + 4) + 4)), .ref ar, .int ac, .ref rd, .ref va, .ref ma, .ref cu, .ref sp, .int ld, .int rs])), (tp, .inl (cB, 2000, .inl (xput4 (xput4 f t a0) (t + 4) a1)))] H := hP
  have hD : va_D A [(h0, .inr (0, [.ref tp, .int (nI ((t + 4) + 4)), .ref ar, .int ac, .ref rd, .ref va, .ref ma, .ref cu, .ref sp, .int ld, .int rs])), (tp, .inl (cB, 2000, .inl (xput4 (xput4 f t a0) (t + 4) a1)))] := hD
  refine lv_aload_n hx hb d_WR_feed_33 rfl (lv_at hl 0 rfl) ?_
  refine lv_iload_n hx hb d_WR_feed_34 rfl (lv_at hl 3 rfl) ?_
  refine xx_callV (wc := [(h0, .inr (0, [.ref tp, .int (nI ((t + 4) + 4)), .ref ar, .int ac, .ref rd, .ref va, .ref ma, .ref cu, .ref sp, .int ld, .int rs])), (tp, .inl (cB, 2000, .inl (xput4 (xput4 f t a0) (t + 4) a1)))]) (wr := []) (As := [.int a2]) (rest := []) ⟨hx, hb, hml, hown, hts⟩ xE_st hK hE hA (c_WR_putInt l htr G cB cI cJ cZ h0 tp ar rd va ma cu sp ((t + 4) + 4) ac ld rs a2 (xput4 (xput4 f t a0) (t + 4) a1) (by omega) _) (xw_V 1 hts m_542 m_544 ms_WR_putInt m_1 m_545 (by decide +kernel) ⟨(Nat.le_of_ble_eq_true rfl), (Nat.le_of_ble_eq_true rfl)⟩) hP hD hS [0, 1] [] rfl rfl (by decide) (by decide) (by decide) 0 0 rfl rfl rfl rfl hl.1 rfl (Nat.le_of_ble_eq_true rfl) d_WR_feed_35 ⟨(Nat.le_of_ble_eq_true rfl), (Nat.le_of_ble_eq_true rfl)⟩ (fun v9 w9 H locs hp hP hD hS => ?_) (fun x9 w9 H9 l9 hp _ _ _ => absurd hp (by rintro ⟨ho, -⟩; cases ho))
  obtain ⟨ho, rfl⟩ := hp
  cases ho
  have hP : va_P G classes [(h0, .inr (0, [.ref tp, .int (nI (((t + 4) + 4) + 4)), .ref ar, .int ac, .ref rd, .ref va, .ref ma, .ref cu, .ref sp, .int ld, .int rs])), (tp, .inl (cB, 2000, .inl (xput4 (xput4 (xput4 f t a0) (t + 4) a1) ((t + 4) + 4) a2)))] H := hP
  have hD : va_D A [(h0, .inr (0, [.ref tp, .int (nI (((t + 4) + 4) + 4)), .ref ar, .int ac, .ref rd, .ref va, .ref ma, .ref cu, .ref sp, .int ld, .int rs])), (tp, .inl (cB, 2000, .inl (xput4 (xput4 (xput4 f t a0) (t + 4) a1) ((t + 4) + 4) a2)))] := hD
  refine lv_aload_n hx hb d_WR_feed_38 rfl (lv_at hl 0 rfl) ?_
  refine lv_iload hx hb d_WR_feed_39 (lv_at hl 4 rfl) ?_
  refine xx_callV (wc := [(h0, .inr (0, [.ref tp, .int (nI (((t + 4) + 4) + 4)), .ref ar, .int ac, .ref rd, .ref va, .ref ma, .ref cu, .ref sp, .int ld, .int rs])), (tp, .inl (cB, 2000, .inl (xput4 (xput4 (xput4 f t a0) (t + 4) a1) ((t + 4) + 4) a2)))]) (wr := []) (As := [.int a3]) (rest := []) ⟨hx, hb, hml, hown, hts⟩ xE_st hK hE hA (c_WR_putInt l htr G cB cI cJ cZ h0 tp ar rd va ma cu sp (((t + 4) + 4) + 4) ac ld rs a3 (xput4 (xput4 (xput4 f t a0) (t + 4) a1) ((t + 4) + 4) a2) (by omega) _) (xw_V 1 hts m_542 m_544 ms_WR_putInt m_1 m_545 (by decide +kernel) ⟨(Nat.le_of_ble_eq_true rfl), (Nat.le_of_ble_eq_true rfl)⟩) hP hD hS [0, 1] [] rfl rfl (by decide) (by decide) (by decide) 0 0 rfl rfl rfl rfl hl.1 rfl (Nat.le_of_ble_eq_true rfl) d_WR_feed_41 ⟨(Nat.le_of_ble_eq_true rfl), (Nat.le_of_ble_eq_true rfl)⟩ (fun v9 w9 H locs hp hP hD hS => ?_) (fun x9 w9 H9 l9 hp _ _ _ => absurd hp (by rintro ⟨ho, -⟩; cases ho))
  obtain ⟨ho, rfl⟩ := hp
  cases ho
  have hP : va_P G classes [(h0, .inr (0, [.ref tp, .int (nI ((((t + 4) + 4) + 4) + 4)), .ref ar, .int ac, .ref rd, .ref va, .ref ma, .ref cu, .ref sp, .int ld, .int rs])), (tp, .inl (cB, 2000, .inl (xput4 (xput4 (xput4 (xput4 f t a0) (t + 4) a1) ((t + 4) + 4) a2) (((t + 4) + 4) + 4) a3)))] H := hP
  have hD : va_D A [(h0, .inr (0, [.ref tp, .int (nI ((((t + 4) + 4) + 4) + 4)), .ref ar, .int ac, .ref rd, .ref va, .ref ma, .ref cu, .ref sp, .int ld, .int rs])), (tp, .inl (cB, 2000, .inl (xput4 (xput4 (xput4 (xput4 f t a0) (t + 4) a1) ((t + 4) + 4) a2) (((t + 4) + 4) + 4) a3)))] := hD
  refine lv_aload_n hx hb d_WR_feed_44 rfl (lv_at hl 0 rfl) ?_
  refine lv_iload hx hb d_WR_feed_45 (lv_at hl 5 rfl) ?_
  refine xx_callV (wc := [(h0, .inr (0, [.ref tp, .int (nI ((((t + 4) + 4) + 4) + 4)), .ref ar, .int ac, .ref rd, .ref va, .ref ma, .ref cu, .ref sp, .int ld, .int rs])), (tp, .inl (cB, 2000, .inl (xput4 (xput4 (xput4 (xput4 f t a0) (t + 4) a1) ((t + 4) + 4) a2) (((t + 4) + 4) + 4) a3)))]) (wr := []) (As := [.int a4]) (rest := []) ⟨hx, hb, hml, hown, hts⟩ xE_st hK hE hA (c_WR_putInt l htr G cB cI cJ cZ h0 tp ar rd va ma cu sp ((((t + 4) + 4) + 4) + 4) ac ld rs a4 (xput4 (xput4 (xput4 (xput4 f t a0) (t + 4) a1) ((t + 4) + 4) a2) (((t + 4) + 4) + 4) a3) (by omega) _) (xw_V 1 hts m_542 m_544 ms_WR_putInt m_1 m_545 (by decide +kernel) ⟨(Nat.le_of_ble_eq_true rfl), (Nat.le_of_ble_eq_true rfl)⟩) hP hD hS [0, 1] [] rfl rfl (by decide) (by decide) (by decide) 0 0 rfl rfl rfl rfl hl.1 rfl (Nat.le_of_ble_eq_true rfl) d_WR_feed_47 ⟨(Nat.le_of_ble_eq_true rfl), (Nat.le_of_ble_eq_true rfl)⟩ (fun v9 w9 H locs hp hP hD hS => ?_) (fun x9 w9 H9 l9 hp _ _ _ => absurd hp (by rintro ⟨ho, -⟩; cases ho))
  obtain ⟨ho, rfl⟩ := hp
  cases ho
  have hP : va_P G classes [(h0, .inr (0, [.ref tp, .int (nI (((((t + 4) + 4) + 4) + 4) + 4)), .ref ar, .int ac, .ref rd, .ref va, .ref ma, .ref cu, .ref sp, .int ld, .int rs])), (tp, .inl (cB, 2000, .inl (xput4 (xput4 (xput4 (xput4 (xput4 f t a0) (t + 4) a1) ((t + 4) + 4) a2) (((t + 4) + 4) + 4) a3) ((((t + 4) + 4) + 4) + 4) a4)))] H := hP
  have hD : va_D A [(h0, .inr (0, [.ref tp, .int (nI (((((t + 4) + 4) + 4) + 4) + 4)), .ref ar, .int ac, .ref rd, .ref va, .ref ma, .ref cu, .ref sp, .int ld, .int rs])), (tp, .inl (cB, 2000, .inl (xput4 (xput4 (xput4 (xput4 (xput4 f t a0) (t + 4) a1) ((t + 4) + 4) a2) (((t + 4) + 4) + 4) a3) ((((t + 4) + 4) + 4) + 4) a4)))] := hD
  refine lv_aload_n hx hb d_WR_feed_50 rfl (lv_at hl 0 rfl) ?_
  refine va_get (D := G) (ci := 0) (v := .int (nI (((((t + 4) + 4) + 4) + 4) + 4))) (C := R_WR) (T := F_WR) (N := 11) hx hb hts i_WR hown hK hP 0 rfl rfl 1 (by decide) (hts _ m_419) (fun _ h9 => h9) rfl d_WR_feed_51 ?_
  exact ex_W (fun _ h => ex_mq h) (W.iret (v := nI (((((t + 4) + 4) + 4) + 4) + 4)) hx hb hr (fun t ht hW => ⟨⟨_, ⟨rfl, rfl⟩, by rw [ht]; exact hP, hD⟩, hS.F ht⟩) hS.2.2 d_WR_feed_54)
set_option maxHeartbeats 8000000 in
set_option maxRecDepth 100000 in
theorem c_WR_feed_x (l : Launch) (htr : l.stackTraces = false) (G : va_G) (cB cI cJ cZ : ClassId) (h0 : Nat) (tp : Nat) (ar : Nat) (rd : Nat) (va : Nat) (ma : Nat) (cu : Nat) (sp : Nat) (t : Nat) (ac : Int32) (ld : Int32) (rs : Int32) (a0 : Int32) (a1 : Int32) (a2 : Int32) (a3 : Int32) (a4 : Int32) (f : Nat → Int32) (ht : 2000 < t + 20) (ht2 : t ≤ 2000) (sz : Nat) : MetX l y_WR_feed (wx y_WR_feed b_WR_feed 6 (some .int)) { frames := 6, cells := 1, slots := 6, locals := 90 } (XP G classes (xtys cB cI cJ cZ) xE [.ref h0, .int a0, .int a1, .int a2, .int a3, .int a4] [(h0, .inr (0, [.ref tp, .int (nI t), .ref ar, .int ac, .ref rd, .ref va, .ref ma, .ref cu, .ref sp, .int ld, .int rs])), (tp, .inl (cB, 2000, .inl f))] sz) (XQ G classes (va_A [(h0, .inr (0, [.ref tp, .int (nI t), .ref ar, .int ac, .ref rd, .ref va, .ref ma, .ref cu, .ref sp, .int ld, .int rs])), (tp, .inl (cB, 2000, .inl f))] sz) (fun o w1 => ∃ x_3 : Nat, o = .threw x_3 ∧ w1 = [(h0, .inr (0, [.ref tp, .int (nI t), .ref ar, .int ac, .ref rd, .ref va, .ref ma, .ref cu, .ref sp, .int ld, .int rs])), (tp, .inl (cB, 2000, .inl f)), (x_3, .inr (13, []))])) 1 6 (va_A [(h0, .inr (0, [.ref tp, .int (nI t), .ref ar, .int ac, .ref rd, .ref va, .ref ma, .ref cu, .ref sp, .int ld, .int rs])), (tp, .inl (cB, 2000, .inl f))] sz) := by
  refine ex_ofW (cc := b_WR_feed) (maxL := 6) (ret := (some .int)) (by decide) rfl ?_
  intro p e s m args below meth c s₁ B hml hno hv
  obtain ⟨rfl, hsz, hP, hK, hD0, hE⟩ := hv
  have hx := B.exec
  have hb := B.bytes
  have hr := B.returns
  have hts : ∀ w ∈ lw_good, w.before _ s = true := fun w h => atoms_spec (ws := wx y_WR_feed b_WR_feed 6 (some .int)) B.pre w (List.mem_cons_of_mem _ h)
  have hown : s.vm.findClass R_WR = some m.cls := findClass_of_methodNamed B.named
  have hlocks := B.notSynchronized
  have htr9 : e.platform.stackTraces = false := by rw [B.admits.platform]; exact htr
  subst hsz
  have hNS := xx_nostat hP
  have hD := hD0.self (sz := s.heap.size)
  generalize hAe : va_A [(h0, .inr (0, [.ref tp, .int (nI t), .ref ar, .int ac, .ref rd, .ref va, .ref ma, .ref cu, .ref sp, .int ld, .int rs])), (tp, .inl (cB, 2000, .inl f))] s.heap.size = A at hD hE hNS ⊢
  have hA : ∀ q : Nat, s.heap.size ≤ q → A q := fun q h => by rw [← hAe]; exact Or.inr h
  have hS : va_S A s.heap s.heap [] := va_S.rf
  have hl := lv_entry ([.ref h0, .int a0, .int a1, .int a2, .int a3, .int a4]) (n := 6) (Nat.le_of_ble_eq_true rfl)
  rw [lg_entry_eq]
  generalize (lg_sl ([.ref h0, .int a0, .int a1, .int a2, .int a3, .int a4]) ++ List.replicate (6 - (lg_sl ([.ref h0, .int a0, .int a1, .int a2, .int a3, .int a4])).length) Slot.unset).toArray = ls at hl ⊢
  have hl : lv_has ls 6 [(0, .ref h0), (1, .int a0), (2, .int a1), (3, .int a2), (4, .int a3), (5, .int a4)] := hl
  refine lv_aload_n hx hb d_WR_feed_0 rfl (lv_at hl 0 rfl) ?_
  refine va_get (D := G) (ci := 0) (v := .int (nI t)) (C := R_WR) (T := F_WR) (N := 11) hx hb hts i_WR hown hK hP 0 rfl rfl 1 (by decide) (hts _ m_419) (fun _ h9 => h9) rfl d_WR_feed_1 ?_
  refine lv_bipush (v := 20) hx hb d_WR_feed_4 (by decide) ?_
  refine lv_iadd hx hb d_WR_feed_6 ?_
  refine lv_topi (fun x9 e_1 => ?_)
  obtain rfl : x9 = nI (t + 20) := e_1.trans (nI_add _ 20)
  refine lv_sipush (v := 2000) hx hb d_WR_feed_7 (by decide) ?_
  refine lv_icmp_le (tgt := 23) hx hb d_WR_feed_10 (by decide) (fun c_2 => absurd c_2 (nI_ge (by omega) (by omega))) (fun c_2 => ?_)
  obtain ⟨qs, hZ⟩ := xE_text hE tx_54
  refine xx_throwNew (cls := "java/lang/IndexOutOfBoundsException") (names := ["java/lang/RuntimeException", "java/lang/Exception"]) (own := R_WR) hx htr9 hb hml hown (hts _ m_472) (hts _ m_473) (hts _ m_17) hZ (xE_atoms hE hts at_R_WR_56) (by decide +kernel) (by decide +kernel) hK 13 rfl hP hD hS hA hNS hl.1 d_WR_feed_13 d_WR_feed_16 d_WR_feed_17 d_WR_feed_19 d_WR_feed_22 (Nat.le_of_ble_eq_true rfl) (Nat.le_of_ble_eq_true rfl) (Nat.le_of_ble_eq_true rfl) (Nat.le_of_ble_eq_true rfl) (fun x_3 H locs hP hD hS => ?_)
  have hP : va_P G classes [(h0, .inr (0, [.ref tp, .int (nI t), .ref ar, .int ac, .ref rd, .ref va, .ref ma, .ref cu, .ref sp, .int ld, .int rs])), (tp, .inl (cB, 2000, .inl f)), (x_3, .inr (13, []))] H := hP
  have hD : va_D A [(h0, .inr (0, [.ref tp, .int (nI t), .ref ar, .int ac, .ref rd, .ref va, .ref ma, .ref cu, .ref sp, .int ld, .int rs])), (tp, .inl (cB, 2000, .inl f)), (x_3, .inr (13, []))] := hD
  exact ex_out rfl rfl rfl (hno _) hlocks (fun t ht hW => ⟨⟨_, ⟨x_3, rfl, rfl⟩, by rw [ht]; exact hP, hD⟩, hS.F ht⟩) hS.2.2
set_option maxHeartbeats 8000000 in
set_option maxRecDepth 100000 in
theorem c_WR_end (l : Launch) (htr : l.stackTraces = false) (G : va_G) (cB cI cJ cZ : ClassId) (h0 : Nat) (tp : Nat) (ar : Nat) (rd : Nat) (va : Nat) (ma : Nat) (cu : Nat) (sp : Nat) (t : Nat) (ac : Int32) (ld : Int32) (rs : Int32) (n : Nat) (ht : n ≤ t) (ht2 : t ≤ 2000) (sz : Nat) : MetX l y_WR_end (wx y_WR_end b_WR_end 2 (some .int)) { frames := 0, cells := 0, slots := 0, locals := 0 } (XP G classes (xtys cB cI cJ cZ) xE [.ref h0, .int (nI n)] [(h0, .inr (0, [.ref tp, .int (nI t), .ref ar, .int ac, .ref rd, .ref va, .ref ma, .ref cu, .ref sp, .int ld, .int rs]))] sz) (XQ G classes (va_A [(h0, .inr (0, [.ref tp, .int (nI t), .ref ar, .int ac, .ref rd, .ref va, .ref ma, .ref cu, .ref sp, .int ld, .int rs]))] sz) (fun o w1 => o = .returned (some (.int (nI n))) ∧ w1 = [(h0, .inr (0, [.ref tp, .int (nI n), .ref ar, .int ac, .ref rd, .ref va, .ref ma, .ref cu, .ref sp, .int ld, .int rs]))])) 0 0 (va_A [(h0, .inr (0, [.ref tp, .int (nI t), .ref ar, .int ac, .ref rd, .ref va, .ref ma, .ref cu, .ref sp, .int ld, .int rs]))] sz) := by
  refine ex_ofW (cc := b_WR_end) (maxL := 2) (ret := (some .int)) (by decide) rfl ?_
  intro p e s m args below meth c s₁ B hml hno hv
  obtain ⟨rfl, hsz, hP, hK, hD0, hE⟩ := hv
  have hx := B.exec
  have hb := B.bytes
  have hr := B.returns
  have hts : ∀ w ∈ lw_good, w.before _ s = true := fun w h => atoms_spec (ws := wx y_WR_end b_WR_end 2 (some .int)) B.pre w (List.mem_cons_of_mem _ h)
  have hown : s.vm.findClass R_WR = some m.cls := findClass_of_methodNamed B.named
  have hlocks := B.notSynchronized
  have htr9 : e.platform.stackTraces = false := by rw [B.admits.platform]; exact htr
  subst hsz
  have hNS := xx_nostat hP
  have hD := hD0.self (sz := s.heap.size)
  generalize hAe : va_A [(h0, .inr (0, [.ref tp, .int (nI t), .ref ar, .int ac, .ref rd, .ref va, .ref ma, .ref cu, .ref sp, .int ld, .int rs]))] s.heap.size = A at hD hE hNS ⊢
  have hA : ∀ q : Nat, s.heap.size ≤ q → A q := fun q h => by rw [← hAe]; exact Or.inr h
  have hS : va_S A s.heap s.heap [] := va_S.rf
  have hl := lv_entry ([.ref h0, .int (nI n)]) (n := 2) (Nat.le_of_ble_eq_true rfl)
  rw [lg_entry_eq]
  generalize (lg_sl ([.ref h0, .int (nI n)]) ++ List.replicate (2 - (lg_sl ([.ref h0, .int (nI n)])).length) Slot.unset).toArray = ls at hl ⊢
  have hl : lv_has ls 2 [(0, .ref h0), (1, .int (nI n))] := hl
  refine lv_iload_n hx hb d_WR_end_0 rfl (lv_at hl 1 rfl) ?_
  refine lv_if_lt (tgt := 12) hx hb d_WR_end_1 (by decide) (fun c_1 => absurd c_1 (nI_pos (by omega))) (fun c_1 => ?_)
  refine lv_iload_n hx hb d_WR_end_4 rfl (lv_at hl 1 rfl) ?_
  refine lv_aload_n hx hb d_WR_end_5 rfl (lv_at hl 0 rfl) ?_
  refine va_get (D := G) (ci := 0) (v := .int (nI t)) (C := R_WR) (T := F_WR) (N := 11) hx hb hts i_WR hown hK hP 0 rfl rfl 1 (by decide) (hts _ m_419) (fun _ h9 => h9) rfl d_WR_end_6 ?_
  refine lv_icmp_le (tgt := 22) hx hb d_WR_end_9 (by decide) (fun c_2 => ?_) (fun c_2 => absurd (nI_le ht (by omega)) c_2)
  refine lv_aload_n hx hb d_WR_end_22 rfl (lv_at hl 0 rfl) ?_
  refine lv_iload_n hx hb d_WR_end_23 rfl (lv_at hl 1 rfl) ?_
  refine va_put (D := G) (ci := 0) (v := .int (nI n)) (ty := .int) (C := R_WR) (T := F_WR) (N := 11) hx hb hts i_WR t_WR t_WR_ok n_WR hown hK hP hD hS 0 rfl rfl 1 (by decide) (hts _ m_419) (fun _ h9 => h9) rfl (by decide +kernel) rfl rfl (Nat.le_of_ble_eq_true rfl) d_WR_end_24 (fun H locs hP hD hS => ?_)
  have hP : va_P G classes [(h0, .inr (0, [.ref tp, .int (nI n), .ref ar, .int ac, .ref rd, .ref va, .ref ma, .ref cu, .ref sp, .int ld, .int rs]))] H := hP
  have hD : va_D A [(h0, .inr (0, [.ref tp, .int (nI n), .ref ar, .int ac, .ref rd, .ref va, .ref ma, .ref cu, .ref sp, .int ld, .int rs]))] := hD
  refine lv_iload_n hx hb d_WR_end_27 rfl (lv_at hl 1 rfl) ?_
  exact ex_W (fun _ h => ex_mq h) (W.iret (v := nI n) hx hb hr (fun t ht hW => ⟨⟨_, ⟨rfl, rfl⟩, by rw [ht]; exact hP, hD⟩, hS.F ht⟩) hS.2.2 d_WR_end_28)
set_option maxHeartbeats 8000000 in
set_option maxRecDepth 100000 in
theorem c_WR_end_x (l : Launch) (htr : l.stackTraces = false) (G : va_G) (cB cI cJ cZ : ClassId) (h0 : Nat) (tp : Nat) (ar : Nat) (rd : Nat) (va : Nat) (ma : Nat) (cu : Nat) (sp : Nat) (t : Nat) (ac : Int32) (ld : Int32) (rs : Int32) (n : Int32) (hn : n < 0 ∨ nI t < n) (sz : Nat) : MetX l y_WR_end (wx y_WR_end b_WR_end 2 (some .int)) { frames := 6, cells := 1, slots := 6, locals := 90 } (XP G classes (xtys cB cI cJ cZ) xE [.ref h0, .int n] [(h0, .inr (0, [.ref tp, .int (nI t), .ref ar, .int ac, .ref rd, .ref va, .ref ma, .ref cu, .ref sp, .int ld, .int rs]))] sz) (XQ G classes (va_A [(h0, .inr (0, [.ref tp, .int (nI t), .ref ar, .int ac, .ref rd, .ref va, .ref ma, .ref cu, .ref sp, .int ld, .int rs]))] sz) (fun o w1 => ∃ x_2 : Nat, o = .threw x_2 ∧ w1 = [(h0, .inr (0, [.ref tp, .int (nI t), .ref ar, .int ac, .ref rd, .ref va, .ref ma, .ref cu, .ref sp, .int ld, .int rs])), (x_2, .inr (14, []))])) 1 6 (va_A [(h0, .inr (0, [.ref tp, .int (nI t), .ref ar, .int ac, .ref rd, .ref va, .ref ma, .ref cu, .ref sp, .int ld, .int rs]))] sz) := by
  refine ex_ofW (cc := b_WR_end) (maxL := 2) (ret := (some .int)) (by decide) rfl ?_
  intro p e s m args below meth c s₁ B hml hno hv
  obtain ⟨rfl, hsz, hP, hK, hD0, hE⟩ := hv
  have hx := B.exec
  have hb := B.bytes
  have hr := B.returns
  have hts : ∀ w ∈ lw_good, w.before _ s = true := fun w h => atoms_spec (ws := wx y_WR_end b_WR_end 2 (some .int)) B.pre w (List.mem_cons_of_mem _ h)
  have hown : s.vm.findClass R_WR = some m.cls := findClass_of_methodNamed B.named
  have hlocks := B.notSynchronized
  have htr9 : e.platform.stackTraces = false := by rw [B.admits.platform]; exact htr
  subst hsz
  have hNS := xx_nostat hP
  have hD := hD0.self (sz := s.heap.size)
  generalize hAe : va_A [(h0, .inr (0, [.ref tp, .int (nI t), .ref ar, .int ac, .ref rd, .ref va, .ref ma, .ref cu, .ref sp, .int ld, .int rs]))] s.heap.size = A at hD hE hNS ⊢
  have hA : ∀ q : Nat, s.heap.size ≤ q → A q := fun q h => by rw [← hAe]; exact Or.inr h
  have hS : va_S A s.heap s.heap [] := va_S.rf
  have hl := lv_entry ([.ref h0, .int n]) (n := 2) (Nat.le_of_ble_eq_true rfl)
  rw [lg_entry_eq]
  generalize (lg_sl ([.ref h0, .int n]) ++ List.replicate (2 - (lg_sl ([.ref h0, .int n])).length) Slot.unset).toArray = ls at hl ⊢
  have hl : lv_has ls 2 [(0, .ref h0), (1, .int n)] := hl
  refine lv_iload_n hx hb d_WR_end_0 rfl (lv_at hl 1 rfl) ?_
  refine lv_if_lt (tgt := 12) hx hb d_WR_end_1 (by decide) (fun c_1 => ?_) (fun c_1 => ?_)
  · obtain ⟨qs, hZ⟩ := xE_text hE tx_65
    refine xx_throwNew (cls := "java/lang/IllegalArgumentException") (names := ["java/lang/RuntimeException", "java/lang/Exception"]) (own := R_WR) hx htr9 hb hml hown (hts _ m_554) (hts _ m_555) (hts _ m_18) hZ (xE_atoms hE hts at_R_WR_67) (by decide +kernel) (by decide +kernel) hK 14 rfl hP hD hS hA hNS hl.1 d_WR_end_12 d_WR_end_15 d_WR_end_16 d_WR_end_18 d_WR_end_21 (Nat.le_of_ble_eq_true rfl) (Nat.le_of_ble_eq_true rfl) (Nat.le_of_ble_eq_true rfl) (Nat.le_of_ble_eq_true rfl) (fun x_2 H locs hP hD hS => ?_)
    have hP : va_P G classes [(h0, .inr (0, [.ref tp, .int (nI t), .ref ar, .int ac, .ref rd, .ref va, .ref ma, .ref cu, .ref sp, .int ld, .int rs])), (x_2, .inr (14, []))] H := hP
    have hD : va_D A [(h0, .inr (0, [.ref tp, .int (nI t), .ref ar, .int ac, .ref rd, .ref va, .ref ma, .ref cu, .ref sp, .int ld, .int rs])), (x_2, .inr (14, []))] := hD
    exact ex_out rfl rfl rfl (hno _) hlocks (fun t ht hW => ⟨⟨_, ⟨x_2, rfl, rfl⟩, by rw [ht]; exact hP, hD⟩, hS.F ht⟩) hS.2.2
  · refine lv_iload_n hx hb d_WR_end_4 rfl (lv_at hl 1 rfl) ?_
    refine lv_aload_n hx hb d_WR_end_5 rfl (lv_at hl 0 rfl) ?_
    refine va_get (D := G) (ci := 0) (v := .int (nI t)) (C := R_WR) (T := F_WR) (N := 11) hx hb hts i_WR hown hK hP 0 rfl rfl 1 (by decide) (hts _ m_419) (fun _ h9 => h9) rfl d_WR_end_6 ?_
    refine lv_icmp_le (tgt := 22) hx hb d_WR_end_9 (by decide) (fun c_3 => absurd c_3 (Int32.not_le.mpr (hn.resolve_left c_1))) (fun c_3 => ?_)
    obtain ⟨qs, hZ⟩ := xE_text hE tx_65
    refine xx_throwNew (cls := "java/lang/IllegalArgumentException") (names := ["java/lang/RuntimeException", "java/lang/Exception"]) (own := R_WR) hx htr9 hb hml hown (hts _ m_554) (hts _ m_555) (hts _ m_18) hZ (xE_atoms hE hts at_R_WR_67) (by decide +kernel) (by decide +kernel) hK 14 rfl hP hD hS hA hNS hl.1 d_WR_end_12 d_WR_end_15 d_WR_end_16 d_WR_end_18 d_WR_end_21 (Nat.le_of_ble_eq_true rfl) (Nat.le_of_ble_eq_true rfl) (Nat.le_of_ble_eq_true rfl) (Nat.le_of_ble_eq_true rfl) (fun x_4 H locs hP hD hS => ?_)
    have hP : va_P G classes [(h0, .inr (0, [.ref tp, .int (nI t), .ref ar, .int ac, .ref rd, .ref va, .ref ma, .ref cu, .ref sp, .int ld, .int rs])), (x_4, .inr (14, []))] H := hP
    have hD : va_D A [(h0, .inr (0, [.ref tp, .int (nI t), .ref ar, .int ac, .ref rd, .ref va, .ref ma, .ref cu, .ref sp, .int ld, .int rs])), (x_4, .inr (14, []))] := hD
    exact ex_out rfl rfl rfl (hno _) hlocks (fun t ht hW => ⟨⟨_, ⟨x_4, rfl, rfl⟩, by rw [ht]; exact hP, hD⟩, hS.F ht⟩) hS.2.2
