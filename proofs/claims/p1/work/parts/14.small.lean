abbrev b_WR_argument : ByteArray := prog_1_method_6_code
def y_WR_argument : MethodName := ⟨R_WR, "argument", "(J)I"⟩
abbrev b_WR_find : ByteArray := prog_1_method_5_code
def y_WR_find : MethodName := ⟨R_WR, "find", "()I"⟩
abbrev b_WR_requireModule : ByteArray := prog_1_method_12_code
def y_WR_requireModule : MethodName := ⟨R_WR, "requireModule", "()V"⟩
abbrev b_WR_call : ByteArray := prog_1_method_7_code
def y_WR_call : MethodName := ⟨R_WR, "call", "(I)J"⟩
abbrev b_WR_global : ByteArray := prog_1_method_8_code
def y_WR_global : MethodName := ⟨R_WR, "global", "(I)J"⟩
abbrev b_WR_memory : ByteArray := prog_1_method_9_code
def y_WR_memory : MethodName := ⟨R_WR, "memory", "(I)I"⟩
abbrev b_WR_count : ByteArray := prog_1_method_10_code
def y_WR_count : MethodName := ⟨R_WR, "count", "(I)I"⟩
theorem d_WR_argument_0 : decode b_WR_argument 0 = .ok (.aload_n 0, 1) := by decide +kernel
theorem d_WR_argument_1 : decode b_WR_argument 1 = .ok (.getfield 105, 3) := by decide +kernel
theorem d_WR_argument_4 : decode b_WR_argument 4 = .ok (.bipush 8, 2) := by decide +kernel
theorem d_WR_argument_6 : decode b_WR_argument 6 = .ok (.if_icmp .lt 13, 3) := by decide +kernel
theorem d_WR_argument_9 : decode b_WR_argument 9 = .ok (.new 52, 3) := by decide +kernel
theorem d_WR_argument_12 : decode b_WR_argument 12 = .ok (.dup, 1) := by decide +kernel
theorem d_WR_argument_13 : decode b_WR_argument 13 = .ok (.ldc 108, 2) := by decide +kernel
theorem d_WR_argument_15 : decode b_WR_argument 15 = .ok (.invokespecial 56, 3) := by decide +kernel
theorem d_WR_argument_18 : decode b_WR_argument 18 = .ok (.athrow, 1) := by decide +kernel
theorem d_WR_argument_19 : decode b_WR_argument 19 = .ok (.aload_n 0, 1) := by decide +kernel
theorem d_WR_argument_20 : decode b_WR_argument 20 = .ok (.getfield 13, 3) := by decide +kernel
theorem d_WR_argument_23 : decode b_WR_argument 23 = .ok (.aload_n 0, 1) := by decide +kernel
theorem d_WR_argument_24 : decode b_WR_argument 24 = .ok (.getfield 105, 3) := by decide +kernel
theorem d_WR_argument_27 : decode b_WR_argument 27 = .ok (.lload_n 1, 1) := by decide +kernel
theorem d_WR_argument_28 : decode b_WR_argument 28 = .ok (.lastore, 1) := by decide +kernel
theorem d_WR_argument_29 : decode b_WR_argument 29 = .ok (.aload_n 0, 1) := by decide +kernel
theorem d_WR_argument_30 : decode b_WR_argument 30 = .ok (.dup, 1) := by decide +kernel
theorem d_WR_argument_31 : decode b_WR_argument 31 = .ok (.getfield 105, 3) := by decide +kernel
theorem d_WR_argument_34 : decode b_WR_argument 34 = .ok (.iconst 1, 1) := by decide +kernel
theorem d_WR_argument_35 : decode b_WR_argument 35 = .ok (.iadd, 1) := by decide +kernel
theorem d_WR_argument_36 : decode b_WR_argument 36 = .ok (.putfield 105, 3) := by decide +kernel
theorem d_WR_argument_39 : decode b_WR_argument 39 = .ok (.aload_n 0, 1) := by decide +kernel
theorem d_WR_argument_40 : decode b_WR_argument 40 = .ok (.getfield 105, 3) := by decide +kernel
theorem d_WR_argument_43 : decode b_WR_argument 43 = .ok (.ireturn, 1) := by decide +kernel
theorem d_WR_find_0 : decode b_WR_find 0 = .ok (.aload_n 0, 1) := by decide +kernel
theorem d_WR_find_1 : decode b_WR_find 1 = .ok (.getfield 48, 3) := by decide +kernel
theorem d_WR_find_4 : decode b_WR_find 4 = .ok (.istore_n 1, 1) := by decide +kernel
theorem d_WR_find_5 : decode b_WR_find 5 = .ok (.aload_n 0, 1) := by decide +kernel
theorem d_WR_find_6 : decode b_WR_find 6 = .ok (.iconst 0, 1) := by decide +kernel
theorem d_WR_find_7 : decode b_WR_find 7 = .ok (.putfield 48, 3) := by decide +kernel
theorem d_WR_find_10 : decode b_WR_find 10 = .ok (.aload_n 0, 1) := by decide +kernel
theorem d_WR_find_11 : decode b_WR_find 11 = .ok (.getfield 84, 3) := by decide +kernel
theorem d_WR_find_14 : decode b_WR_find 14 = .ok (.ifCond .eq 21, 3) := by decide +kernel
theorem d_WR_find_35 : decode b_WR_find 35 = .ok (.iconst (-1), 1) := by decide +kernel
theorem d_WR_find_36 : decode b_WR_find 36 = .ok (.ireturn, 1) := by decide +kernel
theorem d_WR_requireModule_0 : decode b_WR_requireModule 0 = .ok (.aload_n 0, 1) := by decide +kernel
theorem d_WR_requireModule_1 : decode b_WR_requireModule 1 = .ok (.getfield 84, 3) := by decide +kernel
theorem d_WR_requireModule_4 : decode b_WR_requireModule 4 = .ok (.ifCond .ne 13, 3) := by decide +kernel
theorem d_WR_requireModule_7 : decode b_WR_requireModule 7 = .ok (.new 154, 3) := by decide +kernel
theorem d_WR_requireModule_10 : decode b_WR_requireModule 10 = .ok (.dup, 1) := by decide +kernel
theorem d_WR_requireModule_11 : decode b_WR_requireModule 11 = .ok (.ldc 156, 2) := by decide +kernel
theorem d_WR_requireModule_13 : decode b_WR_requireModule 13 = .ok (.invokespecial 158, 3) := by decide +kernel
theorem d_WR_requireModule_16 : decode b_WR_requireModule 16 = .ok (.athrow, 1) := by decide +kernel
theorem d_WR_call_0 : decode b_WR_call 0 = .ok (.aload_n 0, 1) := by decide +kernel
theorem d_WR_call_1 : decode b_WR_call 1 = .ok (.invokevirtual 110, 3) := by decide +kernel
theorem d_WR_global_0 : decode b_WR_global 0 = .ok (.aload_n 0, 1) := by decide +kernel
theorem d_WR_global_1 : decode b_WR_global 1 = .ok (.invokevirtual 110, 3) := by decide +kernel
theorem d_WR_memory_0 : decode b_WR_memory 0 = .ok (.aload_n 0, 1) := by decide +kernel
theorem d_WR_memory_1 : decode b_WR_memory 1 = .ok (.invokevirtual 110, 3) := by decide +kernel
theorem d_WR_count_0 : decode b_WR_count 0 = .ok (.iload_n 1, 1) := by decide +kernel
theorem d_WR_count_1 : decode b_WR_count 1 = .ok (.tableswitch 123 0 6 #[43, 48, 53, 72, 91, 110, 118], 43) := by decide +kernel
theorem d_WR_count_44 : decode b_WR_count 44 = .ok (.aload_n 0, 1) := by decide +kernel
theorem d_WR_count_45 : decode b_WR_count 45 = .ok (.getfield 48, 3) := by decide +kernel
theorem d_WR_count_48 : decode b_WR_count 48 = .ok (.ireturn, 1) := by decide +kernel
theorem d_WR_count_49 : decode b_WR_count 49 = .ok (.aload_n 0, 1) := by decide +kernel
theorem d_WR_count_50 : decode b_WR_count 50 = .ok (.getfield 76, 3) := by decide +kernel
theorem d_WR_count_53 : decode b_WR_count 53 = .ok (.ireturn, 1) := by decide +kernel
theorem d_WR_count_54 : decode b_WR_count 54 = .ok (.aload_n 0, 1) := by decide +kernel
theorem d_WR_count_55 : decode b_WR_count 55 = .ok (.getfield 84, 3) := by decide +kernel
theorem d_WR_count_58 : decode b_WR_count 58 = .ok (.ifCond .eq 13, 3) := by decide +kernel
theorem d_WR_count_71 : decode b_WR_count 71 = .ok (.iconst (-1), 1) := by decide +kernel
theorem d_WR_count_72 : decode b_WR_count 72 = .ok (.ireturn, 1) := by decide +kernel
theorem d_WR_count_73 : decode b_WR_count 73 = .ok (.aload_n 0, 1) := by decide +kernel
theorem d_WR_count_74 : decode b_WR_count 74 = .ok (.getfield 84, 3) := by decide +kernel
theorem d_WR_count_77 : decode b_WR_count 77 = .ok (.ifCond .eq 13, 3) := by decide +kernel
theorem d_WR_count_90 : decode b_WR_count 90 = .ok (.iconst (-1), 1) := by decide +kernel
theorem d_WR_count_91 : decode b_WR_count 91 = .ok (.ireturn, 1) := by decide +kernel
theorem d_WR_count_92 : decode b_WR_count 92 = .ok (.aload_n 0, 1) := by decide +kernel
theorem d_WR_count_93 : decode b_WR_count 93 = .ok (.getfield 84, 3) := by decide +kernel
theorem d_WR_count_96 : decode b_WR_count 96 = .ok (.ifCond .eq 13, 3) := by decide +kernel
theorem d_WR_count_109 : decode b_WR_count 109 = .ok (.iconst (-1), 1) := by decide +kernel
theorem d_WR_count_110 : decode b_WR_count 110 = .ok (.ireturn, 1) := by decide +kernel
theorem d_WR_count_111 : decode b_WR_count 111 = .ok (.aload_n 0, 1) := by decide +kernel
theorem d_WR_count_112 : decode b_WR_count 112 = .ok (.getfield 34, 3) := by decide +kernel
theorem d_WR_count_115 : decode b_WR_count 115 = .ok (.getfield 149, 3) := by decide +kernel
theorem d_WR_count_118 : decode b_WR_count 118 = .ok (.ireturn, 1) := by decide +kernel
theorem d_WR_count_119 : decode b_WR_count 119 = .ok (.aload_n 0, 1) := by decide +kernel
theorem d_WR_count_120 : decode b_WR_count 120 = .ok (.getfield 105, 3) := by decide +kernel
theorem d_WR_count_123 : decode b_WR_count 123 = .ok (.ireturn, 1) := by decide +kernel
theorem d_WR_count_124 : decode b_WR_count 124 = .ok (.new 63, 3) := by decide +kernel
theorem d_WR_count_127 : decode b_WR_count 127 = .ok (.dup, 1) := by decide +kernel
theorem d_WR_count_128 : decode b_WR_count 128 = .ok (.ldc 152, 2) := by decide +kernel
theorem d_WR_count_130 : decode b_WR_count 130 = .ok (.invokespecial 67, 3) := by decide +kernel
theorem d_WR_count_133 : decode b_WR_count 133 = .ok (.athrow, 1) := by decide +kernel
theorem m_421 : Cond.fieldLink R_WR 105 "WaferRunner" "argumentCount" "I" ∈ lw_good := lw_in (List.mem_append_right _ (List.mem_of_getElem? (i := 421) (by decide +kernel))) (by decide +kernel)
theorem m_427 : Cond.fieldLink R_WR 84 "WaferRunner" "loaded" "Z" ∈ lw_good := lw_in (List.mem_append_right _ (List.mem_of_getElem? (i := 427) (by decide +kernel))) (by decide +kernel)
theorem m_924 : Cond.classLink R_WR 154 "java/lang/IllegalStateException" ∈ lw_good := lw_in (List.mem_append_right _ (List.mem_of_getElem? (i := 924) (by decide +kernel))) (by decide +kernel)
theorem m_925 : Cond.instantiable "java/lang/IllegalStateException" 6 ∈ lw_good := lw_in (List.mem_append_right _ (List.mem_of_getElem? (i := 925) (by decide +kernel))) (by decide +kernel)
theorem m_23 : Cond.initialized "java/lang/IllegalStateException" ∈ lw_good := lw_in (List.mem_append_right _ (List.mem_of_getElem? (i := 23) (by decide +kernel))) (by decide +kernel)
theorem m_923 : Cond.code y_WR_requireModule b_WR_requireModule 1 none ∈ lw_good := lw_in (List.mem_append_right _ (List.mem_of_getElem? (i := 923) (by decide +kernel))) (by decide +kernel)
theorem m_920 : Cond.methodLink R_WR 110 y_WR_requireModule ∈ lw_good := lw_in (List.mem_append_right _ (List.mem_of_getElem? (i := 920) (by decide +kernel))) (by decide +kernel)
theorem m_922 : Cond.instanceMethod y_WR_requireModule ∈ lw_good := lw_in (List.mem_append_right _ (List.mem_of_getElem? (i := 922) (by decide +kernel))) (by decide +kernel)
theorem ms_WR_requireModule : Cond.selects R_WR y_WR_requireModule y_WR_requireModule ∈ lw_good := lw_in (by decide +kernel) (by decide +kernel)
theorem m_428 : Cond.fieldLink R_WR 76 "WaferRunner" "reason" "I" ∈ lw_good := lw_in (List.mem_append_right _ (List.mem_of_getElem? (i := 428) (by decide +kernel))) (by decide +kernel)
theorem m_165 : Cond.fieldLink R_WR 149 "WaferRunner$Machine" "steps" "I" ∈ lw_good := lw_in (List.mem_append_right _ (List.mem_of_getElem? (i := 165) (by decide +kernel))) (by decide +kernel)
theorem tx_108 : (R_WR, 108, "too many arguments") ∈ xtexts := by decide +kernel
theorem tx_156 : (R_WR, 156, "there is no module") ∈ xtexts := by decide +kernel
theorem tx_152 : (R_WR, 152, "no such count") ∈ xtexts := by decide +kernel
theorem at_R_WR_158 : ∀ w ∈ Bundle.ownAtoms R_WR 158 "java/lang/IllegalStateException" ["java/lang/RuntimeException", "java/lang/Exception"], xE_in w := by unfold xE_in; decide +kernel
set_option maxHeartbeats 8000000 in
set_option maxRecDepth 100000 in
theorem c_WR_argument (l : Launch) (htr : l.stackTraces = false) (G : va_G) (cB cI cJ cZ : ClassId) (h0 : Nat) (tp : Nat) (ar : Nat) (rd : Nat) (va : Nat) (ma : Nat) (cu : Nat) (sp : Nat) (k : Nat) (tl : Int32) (ld : Int32) (rs : Int32) (v : Int64) (g : Nat → Int64) (hk : k < 8) (sz : Nat) : MetX l y_WR_argument (wx y_WR_argument b_WR_argument 3 (some .int)) { frames := 0, cells := 0, slots := 0, locals := 0 } (XP G classes (xtys cB cI cJ cZ) xE [.ref h0, .long v] [(h0, .inr (0, [.ref tp, .int tl, .ref ar, .int (nI k), .ref rd, .ref va, .ref ma, .ref cu, .ref sp, .int ld, .int rs])), (ar, .inl (cJ, 8, .inr (.inl g)))] sz) (XQ G classes (va_A [(h0, .inr (0, [.ref tp, .int tl, .ref ar, .int (nI k), .ref rd, .ref va, .ref ma, .ref cu, .ref sp, .int ld, .int rs])), (ar, .inl (cJ, 8, .inr (.inl g)))] sz) (fun o w1 => o = .returned (some (.int (nI (k + 1)))) ∧ w1 = [(h0, .inr (0, [.ref tp, .int tl, .ref ar, .int (nI (k + 1)), .ref rd, .ref va, .ref ma, .ref cu, .ref sp, .int ld, .int rs])), (ar, .inl (cJ, 8, .inr (.inl (vp_updL g k v))))])) 0 0 (va_A [(h0, .inr (0, [.ref tp, .int tl, .ref ar, .int (nI k), .ref rd, .ref va, .ref ma, .ref cu, .ref sp, .int ld, .int rs])), (ar, .inl (cJ, 8, .inr (.inl g)))] sz) := by
  refine ex_ofW (cc := b_WR_argument) (maxL := 3) (ret := (some .int)) (by decide) rfl ?_
  intro p e s m args below meth c s₁ B hml hno hv
  obtain ⟨rfl, hsz, hP, hK, hD0, hE⟩ := hv
  have hx := B.exec
  have hb := B.bytes
  have hr := B.returns
  have hts : ∀ w ∈ lw_good, w.before _ s = true := fun w h => atoms_spec (ws := wx y_WR_argument b_WR_argument 3 (some .int)) B.pre w (List.mem_cons_of_mem _ h)
  have hown : s.vm.findClass R_WR = some m.cls := findClass_of_methodNamed B.named
  have hlocks := B.notSynchronized
  have htr9 : e.platform.stackTraces = false := by rw [B.admits.platform]; exact htr
  subst hsz
  have hNS := xx_nostat hP
  have hD := hD0.self (sz := s.heap.size)
  generalize hAe : va_A [(h0, .inr (0, [.ref tp, .int tl, .ref ar, .int (nI k), .ref rd, .ref va, .ref ma, .ref cu, .ref sp, .int ld, .int rs])), (ar, .inl (cJ, 8, .inr (.inl g)))] s.heap.size = A at hD hE hNS ⊢
  have hA : ∀ q : Nat, s.heap.size ≤ q → A q := fun q h => by rw [← hAe]; exact Or.inr h
  have hS : va_S A s.heap s.heap [] := va_S.rf
  have hl := lv_entry ([.ref h0, .long v]) (n := 3) (Nat.le_of_ble_eq_true rfl)
  rw [lg_entry_eq]
  generalize (lg_sl ([.ref h0, .long v]) ++ List.replicate (3 - (lg_sl ([.ref h0, .long v])).length) Slot.unset).toArray = ls at hl ⊢
  have hl : lv_has ls 3 [(0, .ref h0), (1, .long v)] := hl
  refine lv_aload_n hx hb d_WR_argument_0 rfl (lv_at hl 0 rfl) ?_
  refine va_get (D := G) (ci := 0) (v := .int (nI k)) (C := R_WR) (T := F_WR) (N := 11) hx hb hts i_WR hown hK hP 0 rfl rfl 3 (by decide) (hts _ m_421) (fun _ h9 => h9) rfl d_WR_argument_1 ?_
  refine lv_bipush (v := 8) hx hb d_WR_argument_4 (by decide) ?_
  refine lv_icmp_lt (tgt := 19) hx hb d_WR_argument_6 (by decide) (fun c_1 => ?_) (fun c_1 => absurd (nI_lt hk (by decide)) c_1)
  refine lv_aload_n hx hb d_WR_argument_19 rfl (lv_at hl 0 rfl) ?_
  refine va_get (D := G) (ci := 0) (v := .ref ar) (C := R_WR) (T := F_WR) (N := 11) hx hb hts i_WR hown hK hP 0 rfl rfl 2 (by decide) (hts _ m_420) (fun _ h9 => h9) rfl d_WR_argument_20 ?_
  refine lv_aload_n hx hb d_WR_argument_23 rfl (lv_at hl 0 rfl) ?_
  refine va_get (D := G) (ci := 0) (v := .int (nI k)) (C := R_WR) (T := F_WR) (N := 11) hx hb hts i_WR hown hK hP 0 rfl rfl 3 (by decide) (hts _ m_421) (fun _ h9 => h9) rfl d_WR_argument_24 ?_
  refine lv_lload_n hx hb d_WR_argument_27 rfl (lv_at hl 1 rfl) ?_
  refine va_last hx hb hK hP hD hS 1 2 rfl rfl (vp_in_nI (show k < 8 by omega) (by decide)) d_WR_argument_28 (fun H locs hP hD hS => ?_)
  rw [nI_clamp (show k < 2 ^ 31 by omega)] at hP hD
  have hP : va_P G classes [(h0, .inr (0, [.ref tp, .int tl, .ref ar, .int (nI k), .ref rd, .ref va, .ref ma, .ref cu, .ref sp, .int ld, .int rs])), (ar, .inl (cJ, 8, .inr (.inl (vp_updL g k v))))] H := hP
  have hD : va_D A [(h0, .inr (0, [.ref tp, .int tl, .ref ar, .int (nI k), .ref rd, .ref va, .ref ma, .ref cu, .ref sp, .int ld, .int rs])), (ar, .inl (cJ, 8, .inr (.inl (vp_updL g k v))))] := hD
  refine lv_aload_n hx hb d_WR_argument_29 rfl (lv_at hl 0 rfl) ?_
  refine lv_dup hx hb d_WR_argument_30 rfl ?_
  refine va_get (D := G) (ci := 0) (v := .int (nI k)) (C := R_WR) (T := F_WR) (N := 11) hx hb hts i_WR hown hK hP 0 rfl rfl 3 (by decide) (hts _ m_421) (fun _ h9 => h9) rfl d_WR_argument_31 ?_
  refine lv_iconst (v := 1) hx hb d_WR_argument_34 (by decide) ?_
  refine lv_iadd hx hb d_WR_argument_35 ?_
  refine lv_topi (fun x9 e_2 => ?_)
  obtain rfl : x9 = nI (k + 1) := e_2.trans (nI_add _ 1)
  refine va_put (D := G) (ci := 0) (v := .int (nI (k + 1))) (ty := .int) (C := R_WR) (T := F_WR) (N := 11) hx hb hts i_WR t_WR t_WR_ok n_WR hown hK hP hD hS 0 rfl rfl 3 (by decide) (hts _ m_421) (fun _ h9 => h9) rfl (by decide +kernel) rfl rfl (Nat.le_of_ble_eq_true rfl) d_WR_argument_36 (fun H locs hP hD hS => ?_)
  have hP : va_P G classes [(h0, .inr (0, [.ref tp, .int tl, .ref ar, .int (nI (k + 1)), .ref rd, .ref va, .ref ma, .ref cu, .ref sp, .int ld, .int rs])), (ar, .inl (cJ, 8, .inr (.inl (vp_updL g k v))))] H := hP
  have hD : va_D A [(h0, .inr (0, [.ref tp, .int tl, .ref ar, .int (nI (k + 1)), .ref rd, .ref va, .ref ma, .ref cu, .ref sp, .int ld, .int rs])), (ar, .inl (cJ, 8, .inr (.inl (vp_updL g k v))))] := hD
  refine lv_aload_n hx hb d_WR_argument_39 rfl (lv_at hl 0 rfl) ?_
  refine va_get (D := G) (ci := 0) (v := .int (nI (k + 1))) (C := R_WR) (T := F_WR) (N := 11) hx hb hts i_WR hown hK hP 0 rfl rfl 3 (by decide) (hts _ m_421) (fun _ h9 => h9) rfl d_WR_argument_40 ?_
  exact ex_W (fun _ h => ex_mq h) (W.iret (v := nI (k + 1)) hx hb hr (fun t ht hW => ⟨⟨_, ⟨rfl, rfl⟩, by rw [ht]; exact hP, hD⟩, hS.F ht⟩) hS.2.2 d_WR_argument_43)
set_option maxHeartbeats 8000000 in
set_option maxRecDepth 100000 in
theorem c_WR_argument_x (l : Launch) (htr : l.stackTraces = false) (G : va_G) (cB cI cJ cZ : ClassId) (h0 : Nat) (tp : Nat) (ar : Nat) (rd : Nat) (va : Nat) (ma : Nat) (cu : Nat) (sp : Nat) (k : Nat) (tl : Int32) (ld : Int32) (rs : Int32) (v : Int64) (g : Nat → Int64) (hk : 8 ≤ k) (hk2 : k ≤ 8) (sz : Nat) : MetX l y_WR_argument (wx y_WR_argument b_WR_argument 3 (some .int)) { frames := 6, cells := 1, slots := 6, locals := 90 } (XP G classes (xtys cB cI cJ cZ) xE [.ref h0, .long v] [(h0, .inr (0, [.ref tp, .int tl, .ref ar, .int (nI k), .ref rd, .ref va, .ref ma, .ref cu, .ref sp, .int ld, .int rs])), (ar, .inl (cJ, 8, .inr (.inl g)))] sz) (XQ G classes (va_A [(h0, .inr (0, [.ref tp, .int tl, .ref ar, .int (nI k), .ref rd, .ref va, .ref ma, .ref cu, .ref sp, .int ld, .int rs])), (ar, .inl (cJ, 8, .inr (.inl g)))] sz) (fun o w1 => ∃ x_2 : Nat, o = .threw x_2 ∧ w1 = [(h0, .inr (0, [.ref tp, .int tl, .ref ar, .int (nI k), .ref rd, .ref va, .ref ma, .ref cu, .ref sp, .int ld, .int rs])), (ar, .inl (cJ, 8, .inr (.inl g))), (x_2, .inr (13, []))])) 1 6 (va_A [(h0, .inr (0, [.ref tp, .int tl, .ref ar, .int (nI k), .ref rd, .ref va, .ref ma, .ref cu, .ref sp, .int ld, .int rs])), (ar, .inl (cJ, 8, .inr (.inl g)))] sz) := by
  refine ex_ofW (cc := b_WR_argument) (maxL := 3) (ret := (some .int)) (by decide) rfl ?_
  intro p e s m args below meth c s₁ B hml hno hv
  obtain ⟨rfl, hsz, hP, hK, hD0, hE⟩ := hv
  have hx := B.exec
  have hb := B.bytes
  have hr := B.returns
  have hts : ∀ w ∈ lw_good, w.before _ s = true := fun w h => atoms_spec (ws := wx y_WR_argument b_WR_argument 3 (some .int)) B.pre w (List.mem_cons_of_mem _ h)
  have hown : s.vm.findClass R_WR = some m.cls := findClass_of_methodNamed B.named
  have hlocks := B.notSynchronized
  have htr9 : e.platform.stackTraces = false := by rw [B.admits.platform]; exact htr
  subst hsz
  have hNS := xx_nostat hP
  have hD := hD0.self (sz := s.heap.size)
  generalize hAe : va_A [(h0, .inr (0, [.ref tp, .int tl, .ref ar, .int (nI k), .ref rd, .ref va, .ref ma, .ref cu, .ref sp, .int ld, .int rs])), (ar, .inl (cJ, 8, .inr (.inl g)))] s.heap.size = A at hD hE hNS ⊢
  have hA : ∀ q : Nat, s.heap.size ≤ q → A q := fun q h => by rw [← hAe]; exact Or.inr h
  have hS : va_S A s.heap s.heap [] := va_S.rf
  have hl := lv_entry ([.ref h0, .long v]) (n := 3) (Nat.le_of_ble_eq_true rfl)
  rw [lg_entry_eq]
  generalize (lg_sl ([.ref h0, .long v]) ++ List.replicate (3 - (lg_sl ([.ref h0, .long v])).length) Slot.unset).toArray = ls at hl ⊢
  have hl : lv_has ls 3 [(0, .ref h0), (1, .long v)] := hl
  refine lv_aload_n hx hb d_WR_argument_0 rfl (lv_at hl 0 rfl) ?_
  refine va_get (D := G) (ci := 0) (v := .int (nI k)) (C := R_WR) (T := F_WR) (N := 11) hx hb hts i_WR hown hK hP 0 rfl rfl 3 (by decide) (hts _ m_421) (fun _ h9 => h9) rfl d_WR_argument_1 ?_
  refine lv_bipush (v := 8) hx hb d_WR_argument_4 (by decide) ?_
  refine lv_icmp_lt (tgt := 19) hx hb d_WR_argument_6 (by decide) (fun c_1 => absurd c_1 (nI_nlt hk (by omega))) (fun c_1 => ?_)
  obtain ⟨qs, hZ⟩ := xE_text hE tx_108
  refine xx_throwNew (cls := "java/lang/IndexOutOfBoundsException") (names := ["java/lang/RuntimeException", "java/lang/Exception"]) (own := R_WR) hx htr9 hb hml hown (hts _ m_472) (hts _ m_473) (hts _ m_17) hZ (xE_atoms hE hts at_R_WR_56) (by decide +kernel) (by decide +kernel) hK 13 rfl hP hD hS hA hNS hl.1 d_WR_argument_9 d_WR_argument_12 d_WR_argument_13 d_WR_argument_15 d_WR_argument_18 (Nat.le_of_ble_eq_true rfl) (Nat.le_of_ble_eq_true rfl) (Nat.le_of_ble_eq_true rfl) (Nat.le_of_ble_eq_true rfl) (fun x_2 H locs hP hD hS => ?_)
  have hP : va_P G classes [(h0, .inr (0, [.ref tp, .int tl, .ref ar, .int (nI k), .ref rd, .ref va, .ref ma, .ref cu, .ref sp, .int ld, .int rs])), (ar, .inl (cJ, 8, .inr (.inl g))), (x_2, .inr (13, []))] H := hP
  have hD : va_D A [(h0, .inr (0, [.ref tp, .int tl, .ref ar, .int (nI k), .ref rd, .ref va, .ref ma, .ref cu, .ref sp, .int ld, .int rs])), (ar, .inl (cJ, 8, .inr (.inl g))), (x_2, .inr (13, []))] := hD
  exact ex_out rfl rfl rfl (hno _) hlocks (fun t ht hW => ⟨⟨_, ⟨x_2, rfl, rfl⟩, by rw [ht]; exact hP, hD⟩, hS.F ht⟩) hS.2.2
set_option maxHeartbeats 8000000 in
set_option maxRecDepth 100000 in
theorem c_WR_find_0 (l : Launch) (htr : l.stackTraces = false) (G : va_G) (cB cI cJ cZ : ClassId) (h0 : Nat) (tp : Nat) (ar : Nat) (rd : Nat) (va : Nat) (ma : Nat) (cu : Nat) (sp : Nat) (tl : Int32) (ac : Int32) (rs : Int32) (sz : Nat) : MetX l y_WR_find (wx y_WR_find b_WR_find 2 (some .int)) { frames := 0, cells := 0, slots := 0, locals := 0 } (XP G classes (xtys cB cI cJ cZ) xE [.ref h0] [(h0, .inr (0, [.ref tp, .int tl, .ref ar, .int ac, .ref rd, .ref va, .ref ma, .ref cu, .ref sp, .int 0, .int rs]))] sz) (XQ G classes (va_A [(h0, .inr (0, [.ref tp, .int tl, .ref ar, .int ac, .ref rd, .ref va, .ref ma, .ref cu, .ref sp, .int 0, .int rs]))] sz) (fun o w1 => o = .returned (some (.int (-1))) ∧ w1 = [(h0, .inr (0, [.ref tp, .int 0, .ref ar, .int ac, .ref rd, .ref va, .ref ma, .ref cu, .ref sp, .int 0, .int rs]))])) 0 0 (va_A [(h0, .inr (0, [.ref tp, .int tl, .ref ar, .int ac, .ref rd, .ref va, .ref ma, .ref cu, .ref sp, .int 0, .int rs]))] sz) := by
  refine ex_ofW (cc := b_WR_find) (maxL := 2) (ret := (some .int)) (by decide) rfl ?_
  intro p e s m args below meth c s₁ B hml hno hv
  obtain ⟨rfl, hsz, hP, hK, hD0, hE⟩ := hv
  have hx := B.exec
  have hb := B.bytes
  have hr := B.returns
  have hts : ∀ w ∈ lw_good, w.before _ s = true := fun w h => atoms_spec (ws := wx y_WR_find b_WR_find 2 (some .int)) B.pre w (List.mem_cons_of_mem _ h)
  have hown : s.vm.findClass R_WR = some m.cls := findClass_of_methodNamed B.named
  have hlocks := B.notSynchronized
  have htr9 : e.platform.stackTraces = false := by rw [B.admits.platform]; exact htr
  subst hsz
  have hNS := xx_nostat hP
  have hD := hD0.self (sz := s.heap.size)
  generalize hAe : va_A [(h0, .inr (0, [.ref tp, .int tl, .ref ar, .int ac, .ref rd, .ref va, .ref ma, .ref cu, .ref sp, .int 0, .int rs]))] s.heap.size = A at hD hE hNS ⊢
  have hA : ∀ q : Nat, s.heap.size ≤ q → A q := fun q h => by rw [← hAe]; exact Or.inr h
  have hS : va_S A s.heap s.heap [] := va_S.rf
  have hl := lv_entry ([.ref h0]) (n := 2) (Nat.le_of_ble_eq_true rfl)
  rw [lg_entry_eq]
  generalize (lg_sl ([.ref h0]) ++ List.replicate (2 - (lg_sl ([.ref h0])).length) Slot.unset).toArray = ls at hl ⊢
  have hl : lv_has ls 2 [(0, .ref h0)] := hl
  refine lv_aload_n hx hb d_WR_find_0 rfl (lv_at hl 0 rfl) ?_
  refine va_get (D := G) (ci := 0) (v := .int tl) (C := R_WR) (T := F_WR) (N := 11) hx hb hts i_WR hown hK hP 0 rfl rfl 1 (by decide) (hts _ m_419) (fun _ h9 => h9) rfl d_WR_find_1 ?_
  refine lv_istore_n (lv' := [(1, .int tl), (0, .ref h0)]) hx hb d_WR_find_4 rfl hl (by decide) rfl (fun ls hl => ?_)
  refine lv_aload_n hx hb d_WR_find_5 rfl (lv_at hl 1 rfl) ?_
  refine lv_iconst (v := 0) hx hb d_WR_find_6 (by decide) ?_
  refine va_put (D := G) (ci := 0) (v := .int 0) (ty := .int) (C := R_WR) (T := F_WR) (N := 11) hx hb hts i_WR t_WR t_WR_ok n_WR hown hK hP hD hS 0 rfl rfl 1 (by decide) (hts _ m_419) (fun _ h9 => h9) rfl (by decide +kernel) rfl rfl (Nat.le_of_ble_eq_true rfl) d_WR_find_7 (fun H locs hP hD hS => ?_)
  have hP : va_P G classes [(h0, .inr (0, [.ref tp, .int 0, .ref ar, .int ac, .ref rd, .ref va, .ref ma, .ref cu, .ref sp, .int 0, .int rs]))] H := hP
  have hD : va_D A [(h0, .inr (0, [.ref tp, .int 0, .ref ar, .int ac, .ref rd, .ref va, .ref ma, .ref cu, .ref sp, .int 0, .int rs]))] := hD
  refine lv_aload_n hx hb d_WR_find_10 rfl (lv_at hl 1 rfl) ?_
  refine va_get (D := G) (ci := 0) (v := .int 0) (C := R_WR) (T := F_WR) (N := 11) hx hb hts i_WR hown hK hP 0 rfl rfl 9 (by decide) (hts _ m_427) (fun _ h9 => h9) rfl d_WR_find_11 ?_
  refine lv_if_eq (tgt := 35) hx hb d_WR_find_14 (by decide) (fun c_1 => ?_) (fun c_1 => absurd c_1 (by decide))
  refine lv_iconst (v := (-1)) hx hb d_WR_find_35 (by decide) ?_
  exact ex_W (fun _ h => ex_mq h) (W.iret (v := -1) hx hb hr (fun t ht hW => ⟨⟨_, ⟨rfl, rfl⟩, by rw [ht]; exact hP, hD⟩, hS.F ht⟩) hS.2.2 d_WR_find_36)
set_option maxHeartbeats 8000000 in
set_option maxRecDepth 100000 in
theorem c_WR_requireModule_0 (l : Launch) (htr : l.stackTraces = false) (G : va_G) (cB cI cJ cZ : ClassId) (h0 : Nat) (tp : Nat) (ar : Nat) (rd : Nat) (va : Nat) (ma : Nat) (cu : Nat) (sp : Nat) (tl : Int32) (ac : Int32) (rs : Int32) (sz : Nat) : MetX l y_WR_requireModule (wx y_WR_requireModule b_WR_requireModule 1 none) { frames := 6, cells := 1, slots := 6, locals := 90 } (XP G classes (xtys cB cI cJ cZ) xE [.ref h0] [(h0, .inr (0, [.ref tp, .int tl, .ref ar, .int ac, .ref rd, .ref va, .ref ma, .ref cu, .ref sp, .int 0, .int rs]))] sz) (XQ G classes (va_A [(h0, .inr (0, [.ref tp, .int tl, .ref ar, .int ac, .ref rd, .ref va, .ref ma, .ref cu, .ref sp, .int 0, .int rs]))] sz) (fun o w1 => ∃ x_2 : Nat, o = .threw x_2 ∧ w1 = [(h0, .inr (0, [.ref tp, .int tl, .ref ar, .int ac, .ref rd, .ref va, .ref ma, .ref cu, .ref sp, .int 0, .int rs])), (x_2, .inr (16, []))])) 1 6 (va_A [(h0, .inr (0, [.ref tp, .int tl, .ref ar, .int ac, .ref rd, .ref va, .ref ma, .ref cu, .ref sp, .int 0, .int rs]))] sz) := by
  refine ex_ofW (cc := b_WR_requireModule) (maxL := 1) (ret := none) (by decide) rfl ?_
  intro p e s m args below meth c s₁ B hml hno hv
  obtain ⟨rfl, hsz, hP, hK, hD0, hE⟩ := hv
  have hx := B.exec
  have hb := B.bytes
  have hr := B.returns
  have hts : ∀ w ∈ lw_good, w.before _ s = true := fun w h => atoms_spec (ws := wx y_WR_requireModule b_WR_requireModule 1 none) B.pre w (List.mem_cons_of_mem _ h)
  have hown : s.vm.findClass R_WR = some m.cls := findClass_of_methodNamed B.named
  have hlocks := B.notSynchronized
  have htr9 : e.platform.stackTraces = false := by rw [B.admits.platform]; exact htr
  subst hsz
  have hNS := xx_nostat hP
  have hD := hD0.self (sz := s.heap.size)
  generalize hAe : va_A [(h0, .inr (0, [.ref tp, .int tl, .ref ar, .int ac, .ref rd, .ref va, .ref ma, .ref cu, .ref sp, .int 0, .int rs]))] s.heap.size = A at hD hE hNS ⊢
  have hA : ∀ q : Nat, s.heap.size ≤ q → A q := fun q h => by rw [← hAe]; exact Or.inr h
  have hS : va_S A s.heap s.heap [] := va_S.rf
  have hl := lv_entry ([.ref h0]) (n := 1) (Nat.le_of_ble_eq_true rfl)
  rw [lg_entry_eq]
  generalize (lg_sl ([.ref h0]) ++ List.replicate (1 - (lg_sl ([.ref h0])).length) Slot.unset).toArray = ls at hl ⊢
  have hl : lv_has ls 1 [(0, .ref h0)] := hl
  refine lv_aload_n hx hb d_WR_requireModule_0 rfl (lv_at hl 0 rfl) ?_
  refine va_get (D := G) (ci := 0) (v := .int 0) (C := R_WR) (T := F_WR) (N := 11) hx hb hts i_WR hown hK hP 0 rfl rfl 9 (by decide) (hts _ m_427) (fun _ h9 => h9) rfl d_WR_requireModule_1 ?_
  refine lv_if_ne (tgt := 17) hx hb d_WR_requireModule_4 (by decide) (fun c_1 => absurd c_1 (by decide)) (fun c_1 => ?_)
  obtain ⟨qs, hZ⟩ := xE_text hE tx_156
  refine xx_throwNew (cls := "java/lang/IllegalStateException") (names := ["java/lang/RuntimeException", "java/lang/Exception"]) (own := R_WR) hx htr9 hb hml hown (hts _ m_924) (hts _ m_925) (hts _ m_23) hZ (xE_atoms hE hts at_R_WR_158) (by decide +kernel) (by decide +kernel) hK 16 rfl hP hD hS hA hNS hl.1 d_WR_requireModule_7 d_WR_requireModule_10 d_WR_requireModule_11 d_WR_requireModule_13 d_WR_requireModule_16 (Nat.le_of_ble_eq_true rfl) (Nat.le_of_ble_eq_true rfl) (Nat.le_of_ble_eq_true rfl) (Nat.le_of_ble_eq_true rfl) (fun x_2 H locs hP hD hS => ?_)
  have hP : va_P G classes [(h0, .inr (0, [.ref tp, .int tl, .ref ar, .int ac, .ref rd, .ref va, .ref ma, .ref cu, .ref sp, .int 0, .int rs])), (x_2, .inr (16, []))] H := hP
  have hD : va_D A [(h0, .inr (0, [.ref tp, .int tl, .ref ar, .int ac, .ref rd, .ref va, .ref ma, .ref cu, .ref sp, .int 0, .int rs])), (x_2, .inr (16, []))] := hD
  exact ex_out rfl rfl rfl (hno _) hlocks (fun t ht hW => ⟨⟨_, ⟨x_2, rfl, rfl⟩, by rw [ht]; exact hP, hD⟩, hS.F ht⟩) hS.2.2
set_option maxHeartbeats 8000000 in
set_option maxRecDepth 100000 in
theorem c_WR_call_0 (l : Launch) (htr : l.stackTraces = false) (G : va_G) (cB cI cJ cZ : ClassId) (h0 : Nat) (tp : Nat) (ar : Nat) (rd : Nat) (va : Nat) (ma : Nat) (cu : Nat) (sp : Nat) (tl : Int32) (ac : Int32) (rs : Int32) (n : Int32) (sz : Nat) : MetX l y_WR_call (wx y_WR_call b_WR_call 3 (some .long)) { frames := 7, cells := 1, slots := 6, locals := 110 } (XP G classes (xtys cB cI cJ cZ) xE [.ref h0, .int n] [(h0, .inr (0, [.ref tp, .int tl, .ref ar, .int ac, .ref rd, .ref va, .ref ma, .ref cu, .ref sp, .int 0, .int rs]))] sz) (XQ G classes (va_A [(h0, .inr (0, [.ref tp, .int tl, .ref ar, .int ac, .ref rd, .ref va, .ref ma, .ref cu, .ref sp, .int 0, .int rs]))] sz) (fun o w1 => ∃ x9 : Nat, o = .threw x9 ∧ w1 = [(h0, .inr (0, [.ref tp, .int tl, .ref ar, .int ac, .ref rd, .ref va, .ref ma, .ref cu, .ref sp, .int 0, .int rs])), (x9, .inr (16, []))])) 1 6 (va_A [(h0, .inr (0, [.ref tp, .int tl, .ref ar, .int ac, .ref rd, .ref va, .ref ma, .ref cu, .ref sp, .int 0, .int rs]))] sz) := by
  refine ex_ofW (cc := b_WR_call) (maxL := 3) (ret := (some .long)) (by decide) rfl ?_
  intro p e s m args below meth c s₁ B hml hno hv
  obtain ⟨rfl, hsz, hP, hK, hD0, hE⟩ := hv
  have hx := B.exec
  have hb := B.bytes
  have hr := B.returns
  have hts : ∀ w ∈ lw_good, w.before _ s = true := fun w h => atoms_spec (ws := wx y_WR_call b_WR_call 3 (some .long)) B.pre w (List.mem_cons_of_mem _ h)
  have hown : s.vm.findClass R_WR = some m.cls := findClass_of_methodNamed B.named
  have hlocks := B.notSynchronized
  have htr9 : e.platform.stackTraces = false := by rw [B.admits.platform]; exact htr
  subst hsz
  have hNS := xx_nostat hP
  have hD := hD0.self (sz := s.heap.size)
  generalize hAe : va_A [(h0, .inr (0, [.ref tp, .int tl, .ref ar, .int ac, .ref rd, .ref va, .ref ma, .ref cu, .ref sp, .int 0, .int rs]))] s.heap.size = A at hD hE hNS ⊢
  have hA : ∀ q : Nat, s.heap.size ≤ q → A q := fun q h => by rw [← hAe]; exact Or.inr h
  have hS : va_S A s.heap s.heap [] := va_S.rf
  have hl := lv_entry ([.ref h0, .int n]) (n := 3) (Nat.le_of_ble_eq_true rfl)
  rw [lg_entry_eq]
  generalize (lg_sl ([.ref h0, .int n]) ++ List.replicate (3 - (lg_sl ([.ref h0, .int n])).length) Slot.unset).toArray = ls at hl ⊢
  have hl : lv_has ls 3 [(0, .ref h0), (1, .int n)] := hl
  refine lv_aload_n hx hb d_WR_call_0 rfl (lv_at hl 0 rfl) ?_
  refine xx_callV (wc := [(h0, .inr (0, [.ref tp, .int tl, .ref ar, .int ac, .ref rd, .ref va, .ref ma, .ref cu, .ref sp, .int 0, .int rs]))]) (wr := []) (As := []) (rest := []) ⟨hx, hb, hml, hown, hts⟩ xE_st hK hE hA (c_WR_requireModule_0 l htr G cB cI cJ cZ h0 tp ar rd va ma cu sp tl ac rs _) (xw_V 0 hts m_920 m_922 ms_WR_requireModule m_1 m_923 (by decide +kernel) ⟨(Nat.le_of_ble_eq_true rfl), (Nat.le_of_ble_eq_true rfl)⟩) hP hD hS [0] [] rfl rfl (by decide) (by decide) (by decide) 0 0 rfl rfl rfl rfl hl.1 rfl (Nat.le_of_ble_eq_true rfl) d_WR_call_1 ⟨(Nat.le_of_ble_eq_true rfl), (Nat.le_of_ble_eq_true rfl)⟩ (fun v9 w9 H9 l9 hp _ _ _ => absurd hp (by rintro ⟨_, ho, -⟩; cases ho)) (fun x9 w9 H locs hp hP hD hS => ?_)
  obtain ⟨q_1, ho, rfl⟩ := hp
  cases ho
  have hP : va_P G classes [(h0, .inr (0, [.ref tp, .int tl, .ref ar, .int ac, .ref rd, .ref va, .ref ma, .ref cu, .ref sp, .int 0, .int rs])), (x9, .inr (16, []))] H := hP
  have hD : va_D A [(h0, .inr (0, [.ref tp, .int tl, .ref ar, .int ac, .ref rd, .ref va, .ref ma, .ref cu, .ref sp, .int 0, .int rs])), (x9, .inr (16, []))] := hD
  exact ex_out rfl rfl rfl (hno _) hlocks (fun t ht hW => ⟨⟨_, ⟨x9, rfl, rfl⟩, by rw [ht]; exact hP, hD⟩, hS.F ht⟩) hS.2.2
set_option maxHeartbeats 8000000 in
set_option maxRecDepth 100000 in
theorem c_WR_global_0 (l : Launch) (htr : l.stackTraces = false) (G : va_G) (cB cI cJ cZ : ClassId) (h0 : Nat) (tp : Nat) (ar : Nat) (rd : Nat) (va : Nat) (ma : Nat) (cu : Nat) (sp : Nat) (tl : Int32) (ac : Int32) (rs : Int32) (n : Int32) (sz : Nat) : MetX l y_WR_global (wx y_WR_global b_WR_global 2 (some .long)) { frames := 7, cells := 1, slots := 6, locals := 110 } (XP G classes (xtys cB cI cJ cZ) xE [.ref h0, .int n] [(h0, .inr (0, [.ref tp, .int tl, .ref ar, .int ac, .ref rd, .ref va, .ref ma, .ref cu, .ref sp, .int 0, .int rs]))] sz) (XQ G classes (va_A [(h0, .inr (0, [.ref tp, .int tl, .ref ar, .int ac, .ref rd, .ref va, .ref ma, .ref cu, .ref sp, .int 0, .int rs]))] sz) (fun o w1 => ∃ x9 : Nat, o = .threw x9 ∧ w1 = [(h0, .inr (0, [.ref tp, .int tl, .ref ar, .int ac, .ref rd, .ref va, .ref ma, .ref cu, .ref sp, .int 0, .int rs])), (x9, .inr (16, []))])) 1 6 (va_A [(h0, .inr (0, [.ref tp, .int tl, .ref ar, .int ac, .ref rd, .ref va, .ref ma, .ref cu, .ref sp, .int 0, .int rs]))] sz) := by
  refine ex_ofW (cc := b_WR_global) (maxL := 2) (ret := (some .long)) (by decide) rfl ?_
  intro p e s m args below meth c s₁ B hml hno hv
  obtain ⟨rfl, hsz, hP, hK, hD0, hE⟩ := hv
  have hx := B.exec
  have hb := B.bytes
  have hr := B.returns
  have hts : ∀ w ∈ lw_good, w.before _ s = true := fun w h => atoms_spec (ws := wx y_WR_global b_WR_global 2 (some .long)) B.pre w (List.mem_cons_of_mem _ h)
  have hown : s.vm.findClass R_WR = some m.cls := findClass_of_methodNamed B.named
  have hlocks := B.notSynchronized
  have htr9 : e.platform.stackTraces = false := by rw [B.admits.platform]; exact htr
  subst hsz
  have hNS := xx_nostat hP
  have hD := hD0.self (sz := s.heap.size)
  generalize hAe : va_A [(h0, .inr (0, [.ref tp, .int tl, .ref ar, .int ac, .ref rd, .ref va, .ref ma, .ref cu, .ref sp, .int 0, .int rs]))] s.heap.size = A at hD hE hNS ⊢
  have hA : ∀ q : Nat, s.heap.size ≤ q → A q := fun q h => by rw [← hAe]; exact Or.inr h
  have hS : va_S A s.heap s.heap [] := va_S.rf
  have hl := lv_entry ([.ref h0, .int n]) (n := 2) (Nat.le_of_ble_eq_true rfl)
  rw [lg_entry_eq]
  generalize (lg_sl ([.ref h0, .int n]) ++ List.replicate (2 - (lg_sl ([.ref h0, .int n])).length) Slot.unset).toArray = ls at hl ⊢
  have hl : lv_has ls 2 [(0, .ref h0), (1, .int n)] := hl
  refine lv_aload_n hx hb d_WR_global_0 rfl (lv_at hl 0 rfl) ?_
  refine xx_callV (wc := [(h0, .inr (0, [.ref tp, .int tl, .ref ar, .int ac, .ref rd, .ref va, .ref ma, .ref cu, .ref sp, .int 0, .int rs]))]) (wr := []) (As := []) (rest := []) ⟨hx, hb, hml, hown, hts⟩ xE_st hK hE hA (c_WR_requireModule_0 l htr G cB cI cJ cZ h0 tp ar rd va ma cu sp tl ac rs _) (xw_V 0 hts m_920 m_922 ms_WR_requireModule m_1 m_923 (by decide +kernel) ⟨(Nat.le_of_ble_eq_true rfl), (Nat.le_of_ble_eq_true rfl)⟩) hP hD hS [0] [] rfl rfl (by decide) (by decide) (by decide) 0 0 rfl rfl rfl rfl hl.1 rfl (Nat.le_of_ble_eq_true rfl) d_WR_global_1 ⟨(Nat.le_of_ble_eq_true rfl), (Nat.le_of_ble_eq_true rfl)⟩ (fun v9 w9 H9 l9 hp _ _ _ => absurd hp (by rintro ⟨_, ho, -⟩; cases ho)) (fun x9 w9 H locs hp hP hD hS => ?_)
  obtain ⟨q_1, ho, rfl⟩ := hp
  cases ho
  have hP : va_P G classes [(h0, .inr (0, [.ref tp, .int tl, .ref ar, .int ac, .ref rd, .ref va, .ref ma, .ref cu, .ref sp, .int 0, .int rs])), (x9, .inr (16, []))] H := hP
  have hD : va_D A [(h0, .inr (0, [.ref tp, .int tl, .ref ar, .int ac, .ref rd, .ref va, .ref ma, .ref cu, .ref sp, .int 0, .int rs])), (x9, .inr (16, []))] := hD
  exact ex_out rfl rfl rfl (hno _) hlocks (fun t ht hW => ⟨⟨_, ⟨x9, rfl, rfl⟩, by rw [ht]; exact hP, hD⟩, hS.F ht⟩) hS.2.2
set_option maxHeartbeats 8000000 in
set_option maxRecDepth 100000 in
theorem c_WR_memory_0 (l : Launch) (htr : l.stackTraces = false) (G : va_G) (cB cI cJ cZ : ClassId) (h0 : Nat) (tp : Nat) (ar : Nat) (rd : Nat) (va : Nat) (ma : Nat) (cu : Nat) (sp : Nat) (tl : Int32) (ac : Int32) (rs : Int32) (n : Int32) (sz : Nat) : MetX l y_WR_memory (wx y_WR_memory b_WR_memory 2 (some .int)) { frames := 7, cells := 1, slots := 6, locals := 110 } (XP G classes (xtys cB cI cJ cZ) xE [.ref h0, .int n] [(h0, .inr (0, [.ref tp, .int tl, .ref ar, .int ac, .ref rd, .ref va, .ref ma, .ref cu, .ref sp, .int 0, .int rs]))] sz) (XQ G classes (va_A [(h0, .inr (0, [.ref tp, .int tl, .ref ar, .int ac, .ref rd, .ref va, .ref ma, .ref cu, .ref sp, .int 0, .int rs]))] sz) (fun o w1 => ∃ x9 : Nat, o = .threw x9 ∧ w1 = [(h0, .inr (0, [.ref tp, .int tl, .ref ar, .int ac, .ref rd, .ref va, .ref ma, .ref cu, .ref sp, .int 0, .int rs])), (x9, .inr (16, []))])) 1 6 (va_A [(h0, .inr (0, [.ref tp, .int tl, .ref ar, .int ac, .ref rd, .ref va, .ref ma, .ref cu, .ref sp, .int 0, .int rs]))] sz) := by
  refine ex_ofW (cc := b_WR_memory) (maxL := 2) (ret := (some .int)) (by decide) rfl ?_
  intro p e s m args below meth c s₁ B hml hno hv
  obtain ⟨rfl, hsz, hP, hK, hD0, hE⟩ := hv
  have hx := B.exec
  have hb := B.bytes
  have hr := B.returns
  have hts : ∀ w ∈ lw_good, w.before _ s = true := fun w h => atoms_spec (ws := wx y_WR_memory b_WR_memory 2 (some .int)) B.pre w (List.mem_cons_of_mem _ h)
  have hown : s.vm.findClass R_WR = some m.cls := findClass_of_methodNamed B.named
  have hlocks := B.notSynchronized
  have htr9 : e.platform.stackTraces = false := by rw [B.admits.platform]; exact htr
  subst hsz
  have hNS := xx_nostat hP
  have hD := hD0.self (sz := s.heap.size)
  generalize hAe : va_A [(h0, .inr (0, [.ref tp, .int tl, .ref ar, .int ac, .ref rd, .ref va, .ref ma, .ref cu, .ref sp, .int 0, .int rs]))] s.heap.size = A at hD hE hNS ⊢
  have hA : ∀ q : Nat, s.heap.size ≤ q → A q := fun q h => by rw [← hAe]; exact Or.inr h
  have hS : va_S A s.heap s.heap [] := va_S.rf
  have hl := lv_entry ([.ref h0, .int n]) (n := 2) (Nat.le_of_ble_eq_true rfl)
  rw [lg_entry_eq]
  generalize (lg_sl ([.ref h0, .int n]) ++ List.replicate (2 - (lg_sl ([.ref h0, .int n])).length) Slot.unset).toArray = ls at hl ⊢
  have hl : lv_has ls 2 [(0, .ref h0), (1, .int n)] := hl
  refine lv_aload_n hx hb d_WR_memory_0 rfl (lv_at hl 0 rfl) ?_
  refine xx_callV (wc := [(h0, .inr (0, [.ref tp, .int tl, .ref ar, .int ac, .ref rd, .ref va, .ref ma, .ref cu, .ref sp, .int 0, .int rs]))]) (wr := []) (As := []) (rest := []) ⟨hx, hb, hml, hown, hts⟩ xE_st hK hE hA (c_WR_requireModule_0 l htr G cB cI cJ cZ h0 tp ar rd va ma cu sp tl ac rs _) (xw_V 0 hts m_920 m_922 ms_WR_requireModule m_1 m_923 (by decide +kernel) ⟨(Nat.le_of_ble_eq_true rfl), (Nat.le_of_ble_eq_true rfl)⟩) hP hD hS [0] [] rfl rfl (by decide) (by decide) (by decide) 0 0 rfl rfl rfl rfl hl.1 rfl (Nat.le_of_ble_eq_true rfl) d_WR_memory_1 ⟨(Nat.le_of_ble_eq_true rfl), (Nat.le_of_ble_eq_true rfl)⟩ (fun v9 w9 H9 l9 hp _ _ _ => absurd hp (by rintro ⟨_, ho, -⟩; cases ho)) (fun x9 w9 H locs hp hP hD hS => ?_)
  obtain ⟨q_1, ho, rfl⟩ := hp
  cases ho
  have hP : va_P G classes [(h0, .inr (0, [.ref tp, .int tl, .ref ar, .int ac, .ref rd, .ref va, .ref ma, .ref cu, .ref sp, .int 0, .int rs])), (x9, .inr (16, []))] H := hP
  have hD : va_D A [(h0, .inr (0, [.ref tp, .int tl, .ref ar, .int ac, .ref rd, .ref va, .ref ma, .ref cu, .ref sp, .int 0, .int rs])), (x9, .inr (16, []))] := hD
  exact ex_out rfl rfl rfl (hno _) hlocks (fun t ht hW => ⟨⟨_, ⟨x9, rfl, rfl⟩, by rw [ht]; exact hP, hD⟩, hS.F ht⟩) hS.2.2
set_option maxHeartbeats 8000000 in
set_option maxRecDepth 100000 in
theorem c_WR_count_0 (l : Launch) (htr : l.stackTraces = false) (G : va_G) (cB cI cJ cZ : ClassId) (h0 : Nat) (tp : Nat) (ar : Nat) (rd : Nat) (va : Nat) (ma : Nat) (cu : Nat) (sp : Nat) (tl : Int32) (ac : Int32) (rs : Int32) (sz : Nat) : MetX l y_WR_count (wx y_WR_count b_WR_count 2 (some .int)) { frames := 0, cells := 0, slots := 0, locals := 0 } (XP G classes (xtys cB cI cJ cZ) xE [.ref h0, .int 0] [(h0, .inr (0, [.ref tp, .int tl, .ref ar, .int ac, .ref rd, .ref va, .ref ma, .ref cu, .ref sp, .int 0, .int rs]))] sz) (XQ G classes (va_A [(h0, .inr (0, [.ref tp, .int tl, .ref ar, .int ac, .ref rd, .ref va, .ref ma, .ref cu, .ref sp, .int 0, .int rs]))] sz) (fun o w1 => o = .returned (some (.int tl)) ∧ w1 = [(h0, .inr (0, [.ref tp, .int tl, .ref ar, .int ac, .ref rd, .ref va, .ref ma, .ref cu, .ref sp, .int 0, .int rs]))])) 0 0 (va_A [(h0, .inr (0, [.ref tp, .int tl, .ref ar, .int ac, .ref rd, .ref va, .ref ma, .ref cu, .ref sp, .int 0, .int rs]))] sz) := by
  refine ex_ofW (cc := b_WR_count) (maxL := 2) (ret := (some .int)) (by decide) rfl ?_
  intro p e s m args below meth c s₁ B hml hno hv
  obtain ⟨rfl, hsz, hP, hK, hD0, hE⟩ := hv
  have hx := B.exec
  have hb := B.bytes
  have hr := B.returns
  have hts : ∀ w ∈ lw_good, w.before _ s = true := fun w h => atoms_spec (ws := wx y_WR_count b_WR_count 2 (some .int)) B.pre w (List.mem_cons_of_mem _ h)
  have hown : s.vm.findClass R_WR = some m.cls := findClass_of_methodNamed B.named
  have hlocks := B.notSynchronized
  have htr9 : e.platform.stackTraces = false := by rw [B.admits.platform]; exact htr
  subst hsz
  have hNS := xx_nostat hP
  have hD := hD0.self (sz := s.heap.size)
  generalize hAe : va_A [(h0, .inr (0, [.ref tp, .int tl, .ref ar, .int ac, .ref rd, .ref va, .ref ma, .ref cu, .ref sp, .int 0, .int rs]))] s.heap.size = A at hD hE hNS ⊢
  have hA : ∀ q : Nat, s.heap.size ≤ q → A q := fun q h => by rw [← hAe]; exact Or.inr h
  have hS : va_S A s.heap s.heap [] := va_S.rf
  have hl := lv_entry ([.ref h0, .int 0]) (n := 2) (Nat.le_of_ble_eq_true rfl)
  rw [lg_entry_eq]
  generalize (lg_sl ([.ref h0, .int 0]) ++ List.replicate (2 - (lg_sl ([.ref h0, .int 0])).length) Slot.unset).toArray = ls at hl ⊢
  have hl : lv_has ls 2 [(0, .ref h0), (1, .int 0)] := hl
  refine lv_iload_n hx hb d_WR_count_0 rfl (lv_at hl 1 rfl) ?_
  refine lv_tableIn (off := 43) (tgt := 44) hx hb d_WR_count_1 (by decide) (by decide) (by decide) (by decide) ?_
  refine lv_aload_n hx hb d_WR_count_44 rfl (lv_at hl 0 rfl) ?_
  refine va_get (D := G) (ci := 0) (v := .int tl) (C := R_WR) (T := F_WR) (N := 11) hx hb hts i_WR hown hK hP 0 rfl rfl 1 (by decide) (hts _ m_419) (fun _ h9 => h9) rfl d_WR_count_45 ?_
  exact ex_W (fun _ h => ex_mq h) (W.iret (v := tl) hx hb hr (fun t ht hW => ⟨⟨_, ⟨rfl, rfl⟩, by rw [ht]; exact hP, hD⟩, hS.F ht⟩) hS.2.2 d_WR_count_48)
set_option maxHeartbeats 8000000 in
set_option maxRecDepth 100000 in
theorem c_WR_count_1 (l : Launch) (htr : l.stackTraces = false) (G : va_G) (cB cI cJ cZ : ClassId) (h0 : Nat) (tp : Nat) (ar : Nat) (rd : Nat) (va : Nat) (ma : Nat) (cu : Nat) (sp : Nat) (tl : Int32) (ac : Int32) (rs : Int32) (sz : Nat) : MetX l y_WR_count (wx y_WR_count b_WR_count 2 (some .int)) { frames := 0, cells := 0, slots := 0, locals := 0 } (XP G classes (xtys cB cI cJ cZ) xE [.ref h0, .int 1] [(h0, .inr (0, [.ref tp, .int tl, .ref ar, .int ac, .ref rd, .ref va, .ref ma, .ref cu, .ref sp, .int 0, .int rs]))] sz) (XQ G classes (va_A [(h0, .inr (0, [.ref tp, .int tl, .ref ar, .int ac, .ref rd, .ref va, .ref ma, .ref cu, .ref sp, .int 0, .int rs]))] sz) (fun o w1 => o = .returned (some (.int rs)) ∧ w1 = [(h0, .inr (0, [.ref tp, .int tl, .ref ar, .int ac, .ref rd, .ref va, .ref ma, .ref cu, .ref sp, .int 0, .int rs]))])) 0 0 (va_A [(h0, .inr (0, [.ref tp, .int tl, .ref ar, .int ac, .ref rd, .ref va, .ref ma, .ref cu, .ref sp, .int 0, .int rs]))] sz) := by
  refine ex_ofW (cc := b_WR_count) (maxL := 2) (ret := (some .int)) (by decide) rfl ?_
  intro p e s m args below meth c s₁ B hml hno hv
  obtain ⟨rfl, hsz, hP, hK, hD0, hE⟩ := hv
  have hx := B.exec
  have hb := B.bytes
  have hr := B.returns
  have hts : ∀ w ∈ lw_good, w.before _ s = true := fun w h => atoms_spec (ws := wx y_WR_count b_WR_count 2 (some .int)) B.pre w (List.mem_cons_of_mem _ h)
  have hown : s.vm.findClass R_WR = some m.cls := findClass_of_methodNamed B.named
  have hlocks := B.notSynchronized
  have htr9 : e.platform.stackTraces = false := by rw [B.admits.platform]; exact htr
  subst hsz
  have hNS := xx_nostat hP
  have hD := hD0.self (sz := s.heap.size)
  generalize hAe : va_A [(h0, .inr (0, [.ref tp, .int tl, .ref ar, .int ac, .ref rd, .ref va, .ref ma, .ref cu, .ref sp, .int 0, .int rs]))] s.heap.size = A at hD hE hNS ⊢
  have hA : ∀ q : Nat, s.heap.size ≤ q → A q := fun q h => by rw [← hAe]; exact Or.inr h
  have hS : va_S A s.heap s.heap [] := va_S.rf
  have hl := lv_entry ([.ref h0, .int 1]) (n := 2) (Nat.le_of_ble_eq_true rfl)
  rw [lg_entry_eq]
  generalize (lg_sl ([.ref h0, .int 1]) ++ List.replicate (2 - (lg_sl ([.ref h0, .int 1])).length) Slot.unset).toArray = ls at hl ⊢
  have hl : lv_has ls 2 [(0, .ref h0), (1, .int 1)] := hl
  refine lv_iload_n hx hb d_WR_count_0 rfl (lv_at hl 1 rfl) ?_
  refine lv_tableIn (off := 48) (tgt := 49) hx hb d_WR_count_1 (by decide) (by decide) (by decide) (by decide) ?_
  refine lv_aload_n hx hb d_WR_count_49 rfl (lv_at hl 0 rfl) ?_
  refine va_get (D := G) (ci := 0) (v := .int rs) (C := R_WR) (T := F_WR) (N := 11) hx hb hts i_WR hown hK hP 0 rfl rfl 10 (by decide) (hts _ m_428) (fun _ h9 => h9) rfl d_WR_count_50 ?_
  exact ex_W (fun _ h => ex_mq h) (W.iret (v := rs) hx hb hr (fun t ht hW => ⟨⟨_, ⟨rfl, rfl⟩, by rw [ht]; exact hP, hD⟩, hS.F ht⟩) hS.2.2 d_WR_count_53)
set_option maxHeartbeats 8000000 in
set_option maxRecDepth 100000 in
theorem c_WR_count_2 (l : Launch) (htr : l.stackTraces = false) (G : va_G) (cB cI cJ cZ : ClassId) (h0 : Nat) (tp : Nat) (ar : Nat) (rd : Nat) (va : Nat) (ma : Nat) (cu : Nat) (sp : Nat) (tl : Int32) (ac : Int32) (rs : Int32) (sz : Nat) : MetX l y_WR_count (wx y_WR_count b_WR_count 2 (some .int)) { frames := 0, cells := 0, slots := 0, locals := 0 } (XP G classes (xtys cB cI cJ cZ) xE [.ref h0, .int 2] [(h0, .inr (0, [.ref tp, .int tl, .ref ar, .int ac, .ref rd, .ref va, .ref ma, .ref cu, .ref sp, .int 0, .int rs]))] sz) (XQ G classes (va_A [(h0, .inr (0, [.ref tp, .int tl, .ref ar, .int ac, .ref rd, .ref va, .ref ma, .ref cu, .ref sp, .int 0, .int rs]))] sz) (fun o w1 => o = .returned (some (.int (-1))) ∧ w1 = [(h0, .inr (0, [.ref tp, .int tl, .ref ar, .int ac, .ref rd, .ref va, .ref ma, .ref cu, .ref sp, .int 0, .int rs]))])) 0 0 (va_A [(h0, .inr (0, [.ref tp, .int tl, .ref ar, .int ac, .ref rd, .ref va, .ref ma, .ref cu, .ref sp, .int 0, .int rs]))] sz) := by
  refine ex_ofW (cc := b_WR_count) (maxL := 2) (ret := (some .int)) (by decide) rfl ?_
  intro p e s m args below meth c s₁ B hml hno hv
  obtain ⟨rfl, hsz, hP, hK, hD0, hE⟩ := hv
  have hx := B.exec
  have hb := B.bytes
  have hr := B.returns
  have hts : ∀ w ∈ lw_good, w.before _ s = true := fun w h => atoms_spec (ws := wx y_WR_count b_WR_count 2 (some .int)) B.pre w (List.mem_cons_of_mem _ h)
  have hown : s.vm.findClass R_WR = some m.cls := findClass_of_methodNamed B.named
  have hlocks := B.notSynchronized
  have htr9 : e.platform.stackTraces = false := by rw [B.admits.platform]; exact htr
  subst hsz
  have hNS := xx_nostat hP
  have hD := hD0.self (sz := s.heap.size)
  generalize hAe : va_A [(h0, .inr (0, [.ref tp, .int tl, .ref ar, .int ac, .ref rd, .ref va, .ref ma, .ref cu, .ref sp, .int 0, .int rs]))] s.heap.size = A at hD hE hNS ⊢
  have hA : ∀ q : Nat, s.heap.size ≤ q → A q := fun q h => by rw [← hAe]; exact Or.inr h
  have hS : va_S A s.heap s.heap [] := va_S.rf
  have hl := lv_entry ([.ref h0, .int 2]) (n := 2) (Nat.le_of_ble_eq_true rfl)
  rw [lg_entry_eq]
  generalize (lg_sl ([.ref h0, .int 2]) ++ List.replicate (2 - (lg_sl ([.ref h0, .int 2])).length) Slot.unset).toArray = ls at hl ⊢
  have hl : lv_has ls 2 [(0, .ref h0), (1, .int 2)] := hl
  refine lv_iload_n hx hb d_WR_count_0 rfl (lv_at hl 1 rfl) ?_
  refine lv_tableIn (off := 53) (tgt := 54) hx hb d_WR_count_1 (by decide) (by decide) (by decide) (by decide) ?_
  refine lv_aload_n hx hb d_WR_count_54 rfl (lv_at hl 0 rfl) ?_
  refine va_get (D := G) (ci := 0) (v := .int 0) (C := R_WR) (T := F_WR) (N := 11) hx hb hts i_WR hown hK hP 0 rfl rfl 9 (by decide) (hts _ m_427) (fun _ h9 => h9) rfl d_WR_count_55 ?_
  refine lv_if_eq (tgt := 71) hx hb d_WR_count_58 (by decide) (fun c_1 => ?_) (fun c_1 => absurd c_1 (by decide))
  refine lv_iconst (v := (-1)) hx hb d_WR_count_71 (by decide) ?_
  exact ex_W (fun _ h => ex_mq h) (W.iret (v := -1) hx hb hr (fun t ht hW => ⟨⟨_, ⟨rfl, rfl⟩, by rw [ht]; exact hP, hD⟩, hS.F ht⟩) hS.2.2 d_WR_count_72)
set_option maxHeartbeats 8000000 in
set_option maxRecDepth 100000 in
theorem c_WR_count_3 (l : Launch) (htr : l.stackTraces = false) (G : va_G) (cB cI cJ cZ : ClassId) (h0 : Nat) (tp : Nat) (ar : Nat) (rd : Nat) (va : Nat) (ma : Nat) (cu : Nat) (sp : Nat) (tl : Int32) (ac : Int32) (rs : Int32) (sz : Nat) : MetX l y_WR_count (wx y_WR_count b_WR_count 2 (some .int)) { frames := 0, cells := 0, slots := 0, locals := 0 } (XP G classes (xtys cB cI cJ cZ) xE [.ref h0, .int 3] [(h0, .inr (0, [.ref tp, .int tl, .ref ar, .int ac, .ref rd, .ref va, .ref ma, .ref cu, .ref sp, .int 0, .int rs]))] sz) (XQ G classes (va_A [(h0, .inr (0, [.ref tp, .int tl, .ref ar, .int ac, .ref rd, .ref va, .ref ma, .ref cu, .ref sp, .int 0, .int rs]))] sz) (fun o w1 => o = .returned (some (.int (-1))) ∧ w1 = [(h0, .inr (0, [.ref tp, .int tl, .ref ar, .int ac, .ref rd, .ref va, .ref ma, .ref cu, .ref sp, .int 0, .int rs]))])) 0 0 (va_A [(h0, .inr (0, [.ref tp, .int tl, .ref ar, .int ac, .ref rd, .ref va, .ref ma, .ref cu, .ref sp, .int 0, .int rs]))] sz) := by
  refine ex_ofW (cc := b_WR_count) (maxL := 2) (ret := (some .int)) (by decide) rfl ?_
  intro p e s m args below meth c s₁ B hml hno hv
  obtain ⟨rfl, hsz, hP, hK, hD0, hE⟩ := hv
  have hx := B.exec
  have hb := B.bytes
  have hr := B.returns
  have hts : ∀ w ∈ lw_good, w.before _ s = true := fun w h => atoms_spec (ws := wx y_WR_count b_WR_count 2 (some .int)) B.pre w (List.mem_cons_of_mem _ h)
  have hown : s.vm.findClass R_WR = some m.cls := findClass_of_methodNamed B.named
  have hlocks := B.notSynchronized
  have htr9 : e.platform.stackTraces = false := by rw [B.admits.platform]; exact htr
  subst hsz
  have hNS := xx_nostat hP
  have hD := hD0.self (sz := s.heap.size)
  generalize hAe : va_A [(h0, .inr (0, [.ref tp, .int tl, .ref ar, .int ac, .ref rd, .ref va, .ref ma, .ref cu, .ref sp, .int 0, .int rs]))] s.heap.size = A at hD hE hNS ⊢
  have hA : ∀ q : Nat, s.heap.size ≤ q → A q := fun q h => by rw [← hAe]; exact Or.inr h
  have hS : va_S A s.heap s.heap [] := va_S.rf
  have hl := lv_entry ([.ref h0, .int 3]) (n := 2) (Nat.le_of_ble_eq_true rfl)
  rw [lg_entry_eq]
  generalize (lg_sl ([.ref h0, .int 3]) ++ List.replicate (2 - (lg_sl ([.ref h0, .int 3])).length) Slot.unset).toArray = ls at hl ⊢
  have hl : lv_has ls 2 [(0, .ref h0), (1, .int 3)] := hl
  refine lv_iload_n hx hb d_WR_count_0 rfl (lv_at hl 1 rfl) ?_
  refine lv_tableIn (off := 72) (tgt := 73) hx hb d_WR_count_1 (by decide) (by decide) (by decide) (by decide) ?_
  refine lv_aload_n hx hb d_WR_count_73 rfl (lv_at hl 0 rfl) ?_
  refine va_get (D := G) (ci := 0) (v := .int 0) (C := R_WR) (T := F_WR) (N := 11) hx hb hts i_WR hown hK hP 0 rfl rfl 9 (by decide) (hts _ m_427) (fun _ h9 => h9) rfl d_WR_count_74 ?_
  refine lv_if_eq (tgt := 90) hx hb d_WR_count_77 (by decide) (fun c_1 => ?_) (fun c_1 => absurd c_1 (by decide))
  refine lv_iconst (v := (-1)) hx hb d_WR_count_90 (by decide) ?_
  exact ex_W (fun _ h => ex_mq h) (W.iret (v := -1) hx hb hr (fun t ht hW => ⟨⟨_, ⟨rfl, rfl⟩, by rw [ht]; exact hP, hD⟩, hS.F ht⟩) hS.2.2 d_WR_count_91)
set_option maxHeartbeats 8000000 in
set_option maxRecDepth 100000 in
theorem c_WR_count_4 (l : Launch) (htr : l.stackTraces = false) (G : va_G) (cB cI cJ cZ : ClassId) (h0 : Nat) (tp : Nat) (ar : Nat) (rd : Nat) (va : Nat) (ma : Nat) (cu : Nat) (sp : Nat) (tl : Int32) (ac : Int32) (rs : Int32) (sz : Nat) : MetX l y_WR_count (wx y_WR_count b_WR_count 2 (some .int)) { frames := 0, cells := 0, slots := 0, locals := 0 } (XP G classes (xtys cB cI cJ cZ) xE [.ref h0, .int 4] [(h0, .inr (0, [.ref tp, .int tl, .ref ar, .int ac, .ref rd, .ref va, .ref ma, .ref cu, .ref sp, .int 0, .int rs]))] sz) (XQ G classes (va_A [(h0, .inr (0, [.ref tp, .int tl, .ref ar, .int ac, .ref rd, .ref va, .ref ma, .ref cu, .ref sp, .int 0, .int rs]))] sz) (fun o w1 => o = .returned (some (.int (-1))) ∧ w1 = [(h0, .inr (0, [.ref tp, .int tl, .ref ar, .int ac, .ref rd, .ref va, .ref ma, .ref cu, .ref sp, .int 0, .int rs]))])) 0 0 (va_A [(h0, .inr (0, [.ref tp, .int tl, .ref ar, .int ac, .ref rd, .ref va, .ref ma, .ref cu, .ref sp, .int 0, .int rs]))] sz) := by
  refine ex_ofW (cc := b_WR_count) (maxL := 2) (ret := (some .int)) (by decide) rfl ?_
  intro p e s m args below meth c s₁ B hml hno hv
  obtain ⟨rfl, hsz, hP, hK, hD0, hE⟩ := hv
  have hx := B.exec
  have hb := B.bytes
  have hr := B.returns
  have hts : ∀ w ∈ lw_good, w.before _ s = true := fun w h => atoms_spec (ws := wx y_WR_count b_WR_count 2 (some .int)) B.pre w (List.mem_cons_of_mem _ h)
  have hown : s.vm.findClass R_WR = some m.cls := findClass_of_methodNamed B.named
  have hlocks := B.notSynchronized
  have htr9 : e.platform.stackTraces = false := by rw [B.admits.platform]; exact htr
  subst hsz
  have hNS := xx_nostat hP
  have hD := hD0.self (sz := s.heap.size)
  generalize hAe : va_A [(h0, .inr (0, [.ref tp, .int tl, .ref ar, .int ac, .ref rd, .ref va, .ref ma, .ref cu, .ref sp, .int 0, .int rs]))] s.heap.size = A at hD hE hNS ⊢
  have hA : ∀ q : Nat, s.heap.size ≤ q → A q := fun q h => by rw [← hAe]; exact Or.inr h
  have hS : va_S A s.heap s.heap [] := va_S.rf
  have hl := lv_entry ([.ref h0, .int 4]) (n := 2) (Nat.le_of_ble_eq_true rfl)
  rw [lg_entry_eq]
  generalize (lg_sl ([.ref h0, .int 4]) ++ List.replicate (2 - (lg_sl ([.ref h0, .int 4])).length) Slot.unset).toArray = ls at hl ⊢
  have hl : lv_has ls 2 [(0, .ref h0), (1, .int 4)] := hl
  refine lv_iload_n hx hb d_WR_count_0 rfl (lv_at hl 1 rfl) ?_
  refine lv_tableIn (off := 91) (tgt := 92) hx hb d_WR_count_1 (by decide) (by decide) (by decide) (by decide) ?_
  refine lv_aload_n hx hb d_WR_count_92 rfl (lv_at hl 0 rfl) ?_
  refine va_get (D := G) (ci := 0) (v := .int 0) (C := R_WR) (T := F_WR) (N := 11) hx hb hts i_WR hown hK hP 0 rfl rfl 9 (by decide) (hts _ m_427) (fun _ h9 => h9) rfl d_WR_count_93 ?_
  refine lv_if_eq (tgt := 109) hx hb d_WR_count_96 (by decide) (fun c_1 => ?_) (fun c_1 => absurd c_1 (by decide))
  refine lv_iconst (v := (-1)) hx hb d_WR_count_109 (by decide) ?_
  exact ex_W (fun _ h => ex_mq h) (W.iret (v := -1) hx hb hr (fun t ht hW => ⟨⟨_, ⟨rfl, rfl⟩, by rw [ht]; exact hP, hD⟩, hS.F ht⟩) hS.2.2 d_WR_count_110)
set_option maxHeartbeats 8000000 in
set_option maxRecDepth 100000 in
theorem c_WR_count_5 (l : Launch) (htr : l.stackTraces = false) (G : va_G) (cB cI cJ cZ : ClassId) (h0 : Nat) (tp : Nat) (ar : Nat) (rd : Nat) (va : Nat) (ma : Nat) (cu : Nat) (sp : Nat) (tl : Int32) (ac : Int32) (rs : Int32) (mb : Nat) (mg : Nat) (mk : Nat) (mf : Nat) (mv : Nat) (mr : Nat) (m_written : Int32) (m_pages : Int32) (m_steps : Int32) (m_reason : Int32) (m_next : Int32) (m_height : Int32) (m_depth : Int32) (m_variables : Int32) (m_values : Int32) (ld : Int32) (sz : Nat) : MetX l y_WR_count (wx y_WR_count b_WR_count 2 (some .int)) { frames := 0, cells := 0, slots := 0, locals := 0 } (XP G classes (xtys cB cI cJ cZ) xE [.ref h0, .int 5] [(h0, .inr (0, [.ref tp, .int tl, .ref ar, .int ac, .ref rd, .ref va, .ref ma, .ref cu, .ref sp, .int ld, .int rs])), (ma, .inr (6, [.ref mb, .int m_written, .int m_pages, .ref mg, .int m_steps, .null, .null, .int m_reason, .int m_next, .ref mk, .int m_height, .ref mf, .ref mv, .ref mr, .int m_depth, .int m_variables, .int m_values]))] sz) (XQ G classes (va_A [(h0, .inr (0, [.ref tp, .int tl, .ref ar, .int ac, .ref rd, .ref va, .ref ma, .ref cu, .ref sp, .int ld, .int rs])), (ma, .inr (6, [.ref mb, .int m_written, .int m_pages, .ref mg, .int m_steps, .null, .null, .int m_reason, .int m_next, .ref mk, .int m_height, .ref mf, .ref mv, .ref mr, .int m_depth, .int m_variables, .int m_values]))] sz) (fun o w1 => o = .returned (some (.int m_steps)) ∧ w1 = [(h0, .inr (0, [.ref tp, .int tl, .ref ar, .int ac, .ref rd, .ref va, .ref ma, .ref cu, .ref sp, .int ld, .int rs])), (ma, .inr (6, [.ref mb, .int m_written, .int m_pages, .ref mg, .int m_steps, .null, .null, .int m_reason, .int m_next, .ref mk, .int m_height, .ref mf, .ref mv, .ref mr, .int m_depth, .int m_variables, .int m_values]))])) 0 0 (va_A [(h0, .inr (0, [.ref tp, .int tl, .ref ar, .int ac, .ref rd, .ref va, .ref ma, .ref cu, .ref sp, .int ld, .int rs])), (ma, .inr (6, [.ref mb, .int m_written, .int m_pages, .ref mg, .int m_steps, .null, .null, .int m_reason, .int m_next, .ref mk, .int m_height, .ref mf, .ref mv, .ref mr, .int m_depth, .int m_variables, .int m_values]))] sz) := by
  refine ex_ofW (cc := b_WR_count) (maxL := 2) (ret := (some .int)) (by decide) rfl ?_
  intro p e s m args below meth c s₁ B hml hno hv
  obtain ⟨rfl, hsz, hP, hK, hD0, hE⟩ := hv
  have hx := B.exec
  have hb := B.bytes
  have hr := B.returns
  have hts : ∀ w ∈ lw_good, w.before _ s = true := fun w h => atoms_spec (ws := wx y_WR_count b_WR_count 2 (some .int)) B.pre w (List.mem_cons_of_mem _ h)
  have hown : s.vm.findClass R_WR = some m.cls := findClass_of_methodNamed B.named
  have hlocks := B.notSynchronized
  have htr9 : e.platform.stackTraces = false := by rw [B.admits.platform]; exact htr
  subst hsz
  have hNS := xx_nostat hP
  have hD := hD0.self (sz := s.heap.size)
  generalize hAe : va_A [(h0, .inr (0, [.ref tp, .int tl, .ref ar, .int ac, .ref rd, .ref va, .ref ma, .ref cu, .ref sp, .int ld, .int rs])), (ma, .inr (6, [.ref mb, .int m_written, .int m_pages, .ref mg, .int m_steps, .null, .null, .int m_reason, .int m_next, .ref mk, .int m_height, .ref mf, .ref mv, .ref mr, .int m_depth, .int m_variables, .int m_values]))] s.heap.size = A at hD hE hNS ⊢
  have hA : ∀ q : Nat, s.heap.size ≤ q → A q := fun q h => by rw [← hAe]; exact Or.inr h
  have hS : va_S A s.heap s.heap [] := va_S.rf
  have hl := lv_entry ([.ref h0, .int 5]) (n := 2) (Nat.le_of_ble_eq_true rfl)
  rw [lg_entry_eq]
  generalize (lg_sl ([.ref h0, .int 5]) ++ List.replicate (2 - (lg_sl ([.ref h0, .int 5])).length) Slot.unset).toArray = ls at hl ⊢
  have hl : lv_has ls 2 [(0, .ref h0), (1, .int 5)] := hl
  refine lv_iload_n hx hb d_WR_count_0 rfl (lv_at hl 1 rfl) ?_
  refine lv_tableIn (off := 110) (tgt := 111) hx hb d_WR_count_1 (by decide) (by decide) (by decide) (by decide) ?_
  refine lv_aload_n hx hb d_WR_count_111 rfl (lv_at hl 0 rfl) ?_
  refine va_get (D := G) (ci := 0) (v := .ref ma) (C := R_WR) (T := F_WR) (N := 11) hx hb hts i_WR hown hK hP 0 rfl rfl 6 (by decide) (hts _ m_424) (fun _ h9 => h9) rfl d_WR_count_112 ?_
  refine va_get (D := G) (ci := 6) (v := .int m_steps) (C := R_Ma) (T := F_Ma) (N := 17) hx hb hts i_Ma hown hK hP 1 rfl rfl 4 (by decide) (hts _ m_165) (fun _ h9 => h9) rfl d_WR_count_115 ?_
  exact ex_W (fun _ h => ex_mq h) (W.iret (v := m_steps) hx hb hr (fun t ht hW => ⟨⟨_, ⟨rfl, rfl⟩, by rw [ht]; exact hP, hD⟩, hS.F ht⟩) hS.2.2 d_WR_count_118)
set_option maxHeartbeats 8000000 in
set_option maxRecDepth 100000 in
theorem c_WR_count_6 (l : Launch) (htr : l.stackTraces = false) (G : va_G) (cB cI cJ cZ : ClassId) (h0 : Nat) (tp : Nat) (ar : Nat) (rd : Nat) (va : Nat) (ma : Nat) (cu : Nat) (sp : Nat) (tl : Int32) (ac : Int32) (rs : Int32) (ld : Int32) (sz : Nat) : MetX l y_WR_count (wx y_WR_count b_WR_count 2 (some .int)) { frames := 0, cells := 0, slots := 0, locals := 0 } (XP G classes (xtys cB cI cJ cZ) xE [.ref h0, .int 6] [(h0, .inr (0, [.ref tp, .int tl, .ref ar, .int ac, .ref rd, .ref va, .ref ma, .ref cu, .ref sp, .int ld, .int rs]))] sz) (XQ G classes (va_A [(h0, .inr (0, [.ref tp, .int tl, .ref ar, .int ac, .ref rd, .ref va, .ref ma, .ref cu, .ref sp, .int ld, .int rs]))] sz) (fun o w1 => o = .returned (some (.int ac)) ∧ w1 = [(h0, .inr (0, [.ref tp, .int tl, .ref ar, .int ac, .ref rd, .ref va, .ref ma, .ref cu, .ref sp, .int ld, .int rs]))])) 0 0 (va_A [(h0, .inr (0, [.ref tp, .int tl, .ref ar, .int ac, .ref rd, .ref va, .ref ma, .ref cu, .ref sp, .int ld, .int rs]))] sz) := by
  refine ex_ofW (cc := b_WR_count) (maxL := 2) (ret := (some .int)) (by decide) rfl ?_
  intro p e s m args below meth c s₁ B hml hno hv
  obtain ⟨rfl, hsz, hP, hK, hD0, hE⟩ := hv
  have hx := B.exec
  have hb := B.bytes
  have hr := B.returns
  have hts : ∀ w ∈ lw_good, w.before _ s = true := fun w h => atoms_spec (ws := wx y_WR_count b_WR_count 2 (some .int)) B.pre w (List.mem_cons_of_mem _ h)
  have hown : s.vm.findClass R_WR = some m.cls := findClass_of_methodNamed B.named
  have hlocks := B.notSynchronized
  have htr9 : e.platform.stackTraces = false := by rw [B.admits.platform]; exact htr
  subst hsz
  have hNS := xx_nostat hP
  have hD := hD0.self (sz := s.heap.size)
  generalize hAe : va_A [(h0, .inr (0, [.ref tp, .int tl, .ref ar, .int ac, .ref rd, .ref va, .ref ma, .ref cu, .ref sp, .int ld, .int rs]))] s.heap.size = A at hD hE hNS ⊢
  have hA : ∀ q : Nat, s.heap.size ≤ q → A q := fun q h => by rw [← hAe]; exact Or.inr h
  have hS : va_S A s.heap s.heap [] := va_S.rf
  have hl := lv_entry ([.ref h0, .int 6]) (n := 2) (Nat.le_of_ble_eq_true rfl)
  rw [lg_entry_eq]
  generalize (lg_sl ([.ref h0, .int 6]) ++ List.replicate (2 - (lg_sl ([.ref h0, .int 6])).length) Slot.unset).toArray = ls at hl ⊢
  have hl : lv_has ls 2 [(0, .ref h0), (1, .int 6)] := hl
  refine lv_iload_n hx hb d_WR_count_0 rfl (lv_at hl 1 rfl) ?_
  refine lv_tableIn (off := 118) (tgt := 119) hx hb d_WR_count_1 (by decide) (by decide) (by decide) (by decide) ?_
  refine lv_aload_n hx hb d_WR_count_119 rfl (lv_at hl 0 rfl) ?_
  refine va_get (D := G) (ci := 0) (v := .int ac) (C := R_WR) (T := F_WR) (N := 11) hx hb hts i_WR hown hK hP 0 rfl rfl 3 (by decide) (hts _ m_421) (fun _ h9 => h9) rfl d_WR_count_120 ?_
  exact ex_W (fun _ h => ex_mq h) (W.iret (v := ac) hx hb hr (fun t ht hW => ⟨⟨_, ⟨rfl, rfl⟩, by rw [ht]; exact hP, hD⟩, hS.F ht⟩) hS.2.2 d_WR_count_123)
set_option maxHeartbeats 8000000 in
set_option maxRecDepth 100000 in
theorem c_WR_count_x (l : Launch) (htr : l.stackTraces = false) (G : va_G) (cB cI cJ cZ : ClassId) (h0 : Nat) (tp : Nat) (ar : Nat) (rd : Nat) (va : Nat) (ma : Nat) (cu : Nat) (sp : Nat) (tl : Int32) (ac : Int32) (rs : Int32) (ld : Int32) (n : Int32) (hn : n.toInt < 0 ∨ 6 < n.toInt) (sz : Nat) : MetX l y_WR_count (wx y_WR_count b_WR_count 2 (some .int)) { frames := 6, cells := 1, slots := 6, locals := 90 } (XP G classes (xtys cB cI cJ cZ) xE [.ref h0, .int n] [(h0, .inr (0, [.ref tp, .int tl, .ref ar, .int ac, .ref rd, .ref va, .ref ma, .ref cu, .ref sp, .int ld, .int rs]))] sz) (XQ G classes (va_A [(h0, .inr (0, [.ref tp, .int tl, .ref ar, .int ac, .ref rd, .ref va, .ref ma, .ref cu, .ref sp, .int ld, .int rs]))] sz) (fun o w1 => ∃ x_1 : Nat, o = .threw x_1 ∧ w1 = [(h0, .inr (0, [.ref tp, .int tl, .ref ar, .int ac, .ref rd, .ref va, .ref ma, .ref cu, .ref sp, .int ld, .int rs])), (x_1, .inr (14, []))])) 1 6 (va_A [(h0, .inr (0, [.ref tp, .int tl, .ref ar, .int ac, .ref rd, .ref va, .ref ma, .ref cu, .ref sp, .int ld, .int rs]))] sz) := by
  refine ex_ofW (cc := b_WR_count) (maxL := 2) (ret := (some .int)) (by decide) rfl ?_
  intro p e s m args below meth c s₁ B hml hno hv
  obtain ⟨rfl, hsz, hP, hK, hD0, hE⟩ := hv
  have hx := B.exec
  have hb := B.bytes
  have hr := B.returns
  have hts : ∀ w ∈ lw_good, w.before _ s = true := fun w h => atoms_spec (ws := wx y_WR_count b_WR_count 2 (some .int)) B.pre w (List.mem_cons_of_mem _ h)
  have hown : s.vm.findClass R_WR = some m.cls := findClass_of_methodNamed B.named
  have hlocks := B.notSynchronized
  have htr9 : e.platform.stackTraces = false := by rw [B.admits.platform]; exact htr
  subst hsz
  have hNS := xx_nostat hP
  have hD := hD0.self (sz := s.heap.size)
  generalize hAe : va_A [(h0, .inr (0, [.ref tp, .int tl, .ref ar, .int ac, .ref rd, .ref va, .ref ma, .ref cu, .ref sp, .int ld, .int rs]))] s.heap.size = A at hD hE hNS ⊢
  have hA : ∀ q : Nat, s.heap.size ≤ q → A q := fun q h => by rw [← hAe]; exact Or.inr h
  have hS : va_S A s.heap s.heap [] := va_S.rf
  have hl := lv_entry ([.ref h0, .int n]) (n := 2) (Nat.le_of_ble_eq_true rfl)
  rw [lg_entry_eq]
  generalize (lg_sl ([.ref h0, .int n]) ++ List.replicate (2 - (lg_sl ([.ref h0, .int n])).length) Slot.unset).toArray = ls at hl ⊢
  have hl : lv_has ls 2 [(0, .ref h0), (1, .int n)] := hl
  refine lv_iload_n hx hb d_WR_count_0 rfl (lv_at hl 1 rfl) ?_
  refine lv_tableOut (tgt := 124) hx hb d_WR_count_1 hn (by decide) ?_
  obtain ⟨qs, hZ⟩ := xE_text hE tx_152
  refine xx_throwNew (cls := "java/lang/IllegalArgumentException") (names := ["java/lang/RuntimeException", "java/lang/Exception"]) (own := R_WR) hx htr9 hb hml hown (hts _ m_554) (hts _ m_555) (hts _ m_18) hZ (xE_atoms hE hts at_R_WR_67) (by decide +kernel) (by decide +kernel) hK 14 rfl hP hD hS hA hNS hl.1 d_WR_count_124 d_WR_count_127 d_WR_count_128 d_WR_count_130 d_WR_count_133 (Nat.le_of_ble_eq_true rfl) (Nat.le_of_ble_eq_true rfl) (Nat.le_of_ble_eq_true rfl) (Nat.le_of_ble_eq_true rfl) (fun x_1 H locs hP hD hS => ?_)
  have hP : va_P G classes [(h0, .inr (0, [.ref tp, .int tl, .ref ar, .int ac, .ref rd, .ref va, .ref ma, .ref cu, .ref sp, .int ld, .int rs])), (x_1, .inr (14, []))] H := hP
  have hD : va_D A [(h0, .inr (0, [.ref tp, .int tl, .ref ar, .int ac, .ref rd, .ref va, .ref ma, .ref cu, .ref sp, .int ld, .int rs])), (x_1, .inr (14, []))] := hD
  exact ex_out rfl rfl rfl (hno _) hlocks (fun t ht hW => ⟨⟨_, ⟨x_1, rfl, rfl⟩, by rw [ht]; exact hP, hD⟩, hS.F ht⟩) hS.2.2
