abbrev b_So_init : ByteArray := prog_10_method_1_code
def y_So_init : MethodName := ⟨R_So, "<init>", "()V"⟩
abbrev b_BR_init : ByteArray := prog_3_method_1_code
def y_BR_init : MethodName := ⟨R_BR, "<init>", "()V"⟩
abbrev b_BV_init : ByteArray := prog_4_method_1_code
def y_BV_init : MethodName := ⟨R_BV, "<init>", "()V"⟩
abbrev b_Ex_init : ByteArray := prog_6_method_1_code
def y_Ex_init : MethodName := ⟨R_Ex, "<init>", "()V"⟩
abbrev b_Co_init : ByteArray := prog_5_method_1_code
def y_Co_init : MethodName := ⟨R_Co, "<init>", "()V"⟩
theorem d_So_init_0 : decode b_So_init 0 = .ok (.aload_n 0, 1) := by decide +kernel
theorem d_So_init_1 : decode b_So_init 1 = .ok (.invokespecial 3, 3) := by decide +kernel
theorem d_So_init_4 : decode b_So_init 4 = .ok (.return_, 1) := by decide +kernel
theorem d_BR_init_0 : decode b_BR_init 0 = .ok (.aload_n 0, 1) := by decide +kernel
theorem d_BR_init_1 : decode b_BR_init 1 = .ok (.invokespecial 3, 3) := by decide +kernel
theorem d_BR_init_4 : decode b_BR_init 4 = .ok (.aload_n 0, 1) := by decide +kernel
theorem d_BR_init_5 : decode b_BR_init 5 = .ok (.bipush 100, 2) := by decide +kernel
theorem d_BR_init_7 : decode b_BR_init 7 = .ok (.newarray .int, 2) := by decide +kernel
theorem d_BR_init_9 : decode b_BR_init 9 = .ok (.putfield 11, 3) := by decide +kernel
theorem d_BR_init_12 : decode b_BR_init 12 = .ok (.return_, 1) := by decide +kernel
theorem d_BV_init_0 : decode b_BV_init 0 = .ok (.aload_n 0, 1) := by decide +kernel
theorem d_BV_init_1 : decode b_BV_init 1 = .ok (.invokespecial 5, 3) := by decide +kernel
theorem d_BV_init_4 : decode b_BV_init 4 = .ok (.aload_n 0, 1) := by decide +kernel
theorem d_BV_init_5 : decode b_BV_init 5 = .ok (.sipush 2000, 3) := by decide +kernel
theorem d_BV_init_8 : decode b_BV_init 8 = .ok (.newarray .int, 2) := by decide +kernel
theorem d_BV_init_10 : decode b_BV_init 10 = .ok (.putfield 11, 3) := by decide +kernel
theorem d_BV_init_13 : decode b_BV_init 13 = .ok (.aload_n 0, 1) := by decide +kernel
theorem d_BV_init_14 : decode b_BV_init 14 = .ok (.bipush 101, 2) := by decide +kernel
theorem d_BV_init_16 : decode b_BV_init 16 = .ok (.newarray .int, 2) := by decide +kernel
theorem d_BV_init_18 : decode b_BV_init 18 = .ok (.putfield 17, 3) := by decide +kernel
theorem d_BV_init_21 : decode b_BV_init 21 = .ok (.aload_n 0, 1) := by decide +kernel
theorem d_BV_init_22 : decode b_BV_init 22 = .ok (.bipush 101, 2) := by decide +kernel
theorem d_BV_init_24 : decode b_BV_init 24 = .ok (.newarray .int, 2) := by decide +kernel
theorem d_BV_init_26 : decode b_BV_init 26 = .ok (.putfield 20, 3) := by decide +kernel
theorem d_BV_init_29 : decode b_BV_init 29 = .ok (.aload_n 0, 1) := by decide +kernel
theorem d_BV_init_30 : decode b_BV_init 30 = .ok (.bipush 101, 2) := by decide +kernel
theorem d_BV_init_32 : decode b_BV_init 32 = .ok (.newarray .int, 2) := by decide +kernel
theorem d_BV_init_34 : decode b_BV_init 34 = .ok (.putfield 23, 3) := by decide +kernel
theorem d_BV_init_37 : decode b_BV_init 37 = .ok (.aload_n 0, 1) := by decide +kernel
theorem d_BV_init_38 : decode b_BV_init 38 = .ok (.bipush 101, 2) := by decide +kernel
theorem d_BV_init_40 : decode b_BV_init 40 = .ok (.newarray .int, 2) := by decide +kernel
theorem d_BV_init_42 : decode b_BV_init 42 = .ok (.putfield 26, 3) := by decide +kernel
theorem d_BV_init_45 : decode b_BV_init 45 = .ok (.aload_n 0, 1) := by decide +kernel
theorem d_BV_init_46 : decode b_BV_init 46 = .ok (.bipush 101, 2) := by decide +kernel
theorem d_BV_init_48 : decode b_BV_init 48 = .ok (.newarray .boolean, 2) := by decide +kernel
theorem d_BV_init_50 : decode b_BV_init 50 = .ok (.putfield 29, 3) := by decide +kernel
theorem d_BV_init_53 : decode b_BV_init 53 = .ok (.return_, 1) := by decide +kernel
theorem d_Ex_init_0 : decode b_Ex_init 0 = .ok (.aload_n 0, 1) := by decide +kernel
theorem d_Ex_init_1 : decode b_Ex_init 1 = .ok (.invokespecial 1, 3) := by decide +kernel
theorem d_Ex_init_4 : decode b_Ex_init 4 = .ok (.aload_n 0, 1) := by decide +kernel
theorem d_Ex_init_5 : decode b_Ex_init 5 = .ok (.bipush 40, 2) := by decide +kernel
theorem d_Ex_init_7 : decode b_Ex_init 7 = .ok (.newarray .int, 2) := by decide +kernel
theorem d_Ex_init_9 : decode b_Ex_init 9 = .ok (.putfield 9, 3) := by decide +kernel
theorem d_Ex_init_12 : decode b_Ex_init 12 = .ok (.aload_n 0, 1) := by decide +kernel
theorem d_Ex_init_13 : decode b_Ex_init 13 = .ok (.bipush 40, 2) := by decide +kernel
theorem d_Ex_init_15 : decode b_Ex_init 15 = .ok (.newarray .int, 2) := by decide +kernel
theorem d_Ex_init_17 : decode b_Ex_init 17 = .ok (.putfield 13, 3) := by decide +kernel
theorem d_Ex_init_20 : decode b_Ex_init 20 = .ok (.aload_n 0, 1) := by decide +kernel
theorem d_Ex_init_21 : decode b_Ex_init 21 = .ok (.bipush 40, 2) := by decide +kernel
theorem d_Ex_init_23 : decode b_Ex_init 23 = .ok (.newarray .int, 2) := by decide +kernel
theorem d_Ex_init_25 : decode b_Ex_init 25 = .ok (.putfield 16, 3) := by decide +kernel
theorem d_Ex_init_28 : decode b_Ex_init 28 = .ok (.aload_n 0, 1) := by decide +kernel
theorem d_Ex_init_29 : decode b_Ex_init 29 = .ok (.sipush 1200, 3) := by decide +kernel
theorem d_Ex_init_32 : decode b_Ex_init 32 = .ok (.newarray .byte, 2) := by decide +kernel
theorem d_Ex_init_34 : decode b_Ex_init 34 = .ok (.putfield 19, 3) := by decide +kernel
theorem d_Ex_init_37 : decode b_Ex_init 37 = .ok (.return_, 1) := by decide +kernel
theorem d_Co_init_0 : decode b_Co_init 0 = .ok (.aload_n 0, 1) := by decide +kernel
theorem d_Co_init_1 : decode b_Co_init 1 = .ok (.invokespecial 3, 3) := by decide +kernel
theorem d_Co_init_4 : decode b_Co_init 4 = .ok (.aload_n 0, 1) := by decide +kernel
theorem d_Co_init_5 : decode b_Co_init 5 = .ok (.sipush 2000, 3) := by decide +kernel
theorem d_Co_init_8 : decode b_Co_init 8 = .ok (.newarray .int, 2) := by decide +kernel
theorem d_Co_init_10 : decode b_Co_init 10 = .ok (.putfield 9, 3) := by decide +kernel
theorem d_Co_init_13 : decode b_Co_init 13 = .ok (.aload_n 0, 1) := by decide +kernel
theorem d_Co_init_14 : decode b_Co_init 14 = .ok (.sipush 2000, 3) := by decide +kernel
theorem d_Co_init_17 : decode b_Co_init 17 = .ok (.newarray .long, 2) := by decide +kernel
theorem d_Co_init_19 : decode b_Co_init 19 = .ok (.putfield 15, 3) := by decide +kernel
theorem d_Co_init_22 : decode b_Co_init 22 = .ok (.aload_n 0, 1) := by decide +kernel
theorem d_Co_init_23 : decode b_Co_init 23 = .ok (.sipush 2000, 3) := by decide +kernel
theorem d_Co_init_26 : decode b_Co_init 26 = .ok (.newarray .int, 2) := by decide +kernel
theorem d_Co_init_28 : decode b_Co_init 28 = .ok (.putfield 19, 3) := by decide +kernel
theorem d_Co_init_31 : decode b_Co_init 31 = .ok (.aload_n 0, 1) := by decide +kernel
theorem d_Co_init_32 : decode b_Co_init 32 = .ok (.sipush 2000, 3) := by decide +kernel
theorem d_Co_init_35 : decode b_Co_init 35 = .ok (.newarray .int, 2) := by decide +kernel
theorem d_Co_init_37 : decode b_Co_init 37 = .ok (.putfield 22, 3) := by decide +kernel
theorem d_Co_init_40 : decode b_Co_init 40 = .ok (.aload_n 0, 1) := by decide +kernel
theorem d_Co_init_41 : decode b_Co_init 41 = .ok (.sipush 2000, 3) := by decide +kernel
theorem d_Co_init_44 : decode b_Co_init 44 = .ok (.newarray .int, 2) := by decide +kernel
theorem d_Co_init_46 : decode b_Co_init 46 = .ok (.putfield 25, 3) := by decide +kernel
theorem d_Co_init_49 : decode b_Co_init 49 = .ok (.aload_n 0, 1) := by decide +kernel
theorem d_Co_init_50 : decode b_Co_init 50 = .ok (.sipush 2000, 3) := by decide +kernel
theorem d_Co_init_53 : decode b_Co_init 53 = .ok (.newarray .int, 2) := by decide +kernel
theorem d_Co_init_55 : decode b_Co_init 55 = .ok (.putfield 28, 3) := by decide +kernel
theorem d_Co_init_58 : decode b_Co_init 58 = .ok (.aload_n 0, 1) := by decide +kernel
theorem d_Co_init_59 : decode b_Co_init 59 = .ok (.sipush 2000, 3) := by decide +kernel
theorem d_Co_init_62 : decode b_Co_init 62 = .ok (.newarray .int, 2) := by decide +kernel
theorem d_Co_init_64 : decode b_Co_init 64 = .ok (.putfield 31, 3) := by decide +kernel
theorem d_Co_init_67 : decode b_Co_init 67 = .ok (.aload_n 0, 1) := by decide +kernel
theorem d_Co_init_68 : decode b_Co_init 68 = .ok (.sipush 2000, 3) := by decide +kernel
theorem d_Co_init_71 : decode b_Co_init 71 = .ok (.newarray .int, 2) := by decide +kernel
theorem d_Co_init_73 : decode b_Co_init 73 = .ok (.putfield 34, 3) := by decide +kernel
theorem d_Co_init_76 : decode b_Co_init 76 = .ok (.aload_n 0, 1) := by decide +kernel
theorem d_Co_init_77 : decode b_Co_init 77 = .ok (.sipush 2000, 3) := by decide +kernel
theorem d_Co_init_80 : decode b_Co_init 80 = .ok (.newarray .int, 2) := by decide +kernel
theorem d_Co_init_82 : decode b_Co_init 82 = .ok (.putfield 37, 3) := by decide +kernel
theorem d_Co_init_85 : decode b_Co_init 85 = .ok (.return_, 1) := by decide +kernel
theorem m_47 : Cond.methodLink R_So 3 objectInit ∈ lw_good := lw_in (List.mem_append_right _ (List.mem_of_getElem? (i := 47) (by decide +kernel))) (by decide +kernel)
theorem m_34 : Cond.instanceMethod objectInit ∈ lw_good := lw_in (List.mem_append_right _ (List.mem_of_getElem? (i := 34) (by decide +kernel))) (by decide +kernel)
theorem m_35 : Cond.code objectInit ⟨#[0xb1]⟩ 1 none ∈ lw_good := lw_in (List.mem_append_right _ (List.mem_of_getElem? (i := 35) (by decide +kernel))) (by decide +kernel)
theorem m_68 : Cond.methodLink R_BR 3 objectInit ∈ lw_good := lw_in (List.mem_append_right _ (List.mem_of_getElem? (i := 68) (by decide +kernel))) (by decide +kernel)
theorem m_82 : Cond.arrayClass .int ∈ lw_good := lw_in (List.mem_append_right _ (List.mem_of_getElem? (i := 82) (by decide +kernel))) (by decide +kernel)
theorem m_69 : Cond.fieldLink R_BR 11 "WaferRunner$BodyReader" "open" "[I" ∈ lw_good := lw_in (List.mem_append_right _ (List.mem_of_getElem? (i := 69) (by decide +kernel))) (by decide +kernel)
theorem m_107 : Cond.methodLink R_BV 5 objectInit ∈ lw_good := lw_in (List.mem_append_right _ (List.mem_of_getElem? (i := 107) (by decide +kernel))) (by decide +kernel)
theorem m_111 : Cond.fieldLink R_BV 11 "WaferRunner$BodyValidator" "types" "[I" ∈ lw_good := lw_in (List.mem_append_right _ (List.mem_of_getElem? (i := 111) (by decide +kernel))) (by decide +kernel)
theorem m_113 : Cond.fieldLink R_BV 17 "WaferRunner$BodyValidator" "openers" "[I" ∈ lw_good := lw_in (List.mem_append_right _ (List.mem_of_getElem? (i := 113) (by decide +kernel))) (by decide +kernel)
theorem m_114 : Cond.fieldLink R_BV 20 "WaferRunner$BodyValidator" "bases" "[I" ∈ lw_good := lw_in (List.mem_append_right _ (List.mem_of_getElem? (i := 114) (by decide +kernel))) (by decide +kernel)
theorem m_115 : Cond.fieldLink R_BV 23 "WaferRunner$BodyValidator" "blockTypes" "[I" ∈ lw_good := lw_in (List.mem_append_right _ (List.mem_of_getElem? (i := 115) (by decide +kernel))) (by decide +kernel)
theorem m_116 : Cond.fieldLink R_BV 26 "WaferRunner$BodyValidator" "labelTypes" "[I" ∈ lw_good := lw_in (List.mem_append_right _ (List.mem_of_getElem? (i := 116) (by decide +kernel))) (by decide +kernel)
theorem m_145 : Cond.arrayClass .boolean ∈ lw_good := lw_in (List.mem_append_right _ (List.mem_of_getElem? (i := 145) (by decide +kernel))) (by decide +kernel)
theorem m_117 : Cond.fieldLink R_BV 29 "WaferRunner$BodyValidator" "unreachable" "[Z" ∈ lw_good := lw_in (List.mem_append_right _ (List.mem_of_getElem? (i := 117) (by decide +kernel))) (by decide +kernel)
theorem m_224 : Cond.methodLink R_Ex 1 objectInit ∈ lw_good := lw_in (List.mem_append_right _ (List.mem_of_getElem? (i := 224) (by decide +kernel))) (by decide +kernel)
theorem m_229 : Cond.fieldLink R_Ex 9 "WaferRunner$Exports" "kinds" "[I" ∈ lw_good := lw_in (List.mem_append_right _ (List.mem_of_getElem? (i := 229) (by decide +kernel))) (by decide +kernel)
theorem m_232 : Cond.fieldLink R_Ex 13 "WaferRunner$Exports" "indices" "[I" ∈ lw_good := lw_in (List.mem_append_right _ (List.mem_of_getElem? (i := 232) (by decide +kernel))) (by decide +kernel)
theorem m_235 : Cond.fieldLink R_Ex 16 "WaferRunner$Exports" "nameLengths" "[I" ∈ lw_good := lw_in (List.mem_append_right _ (List.mem_of_getElem? (i := 235) (by decide +kernel))) (by decide +kernel)
theorem m_61 : Cond.arrayClass .byte ∈ lw_good := lw_in (List.mem_append_right _ (List.mem_of_getElem? (i := 61) (by decide +kernel))) (by decide +kernel)
theorem m_237 : Cond.fieldLink R_Ex 19 "WaferRunner$Exports" "names" "[B" ∈ lw_good := lw_in (List.mem_append_right _ (List.mem_of_getElem? (i := 237) (by decide +kernel))) (by decide +kernel)
theorem m_255 : Cond.methodLink R_Co 3 objectInit ∈ lw_good := lw_in (List.mem_append_right _ (List.mem_of_getElem? (i := 255) (by decide +kernel))) (by decide +kernel)
theorem m_259 : Cond.fieldLink R_Co 9 "WaferRunner$Code" "ops" "[I" ∈ lw_good := lw_in (List.mem_append_right _ (List.mem_of_getElem? (i := 259) (by decide +kernel))) (by decide +kernel)
theorem m_62 : Cond.arrayClass .long ∈ lw_good := lw_in (List.mem_append_right _ (List.mem_of_getElem? (i := 62) (by decide +kernel))) (by decide +kernel)
theorem m_263 : Cond.fieldLink R_Co 15 "WaferRunner$Code" "values" "[J" ∈ lw_good := lw_in (List.mem_append_right _ (List.mem_of_getElem? (i := 263) (by decide +kernel))) (by decide +kernel)
theorem m_267 : Cond.fieldLink R_Co 19 "WaferRunner$Code" "extras" "[I" ∈ lw_good := lw_in (List.mem_append_right _ (List.mem_of_getElem? (i := 267) (by decide +kernel))) (by decide +kernel)
theorem m_271 : Cond.fieldLink R_Co 22 "WaferRunner$Code" "ends" "[I" ∈ lw_good := lw_in (List.mem_append_right _ (List.mem_of_getElem? (i := 271) (by decide +kernel))) (by decide +kernel)
theorem m_274 : Cond.fieldLink R_Co 25 "WaferRunner$Code" "elses" "[I" ∈ lw_good := lw_in (List.mem_append_right _ (List.mem_of_getElem? (i := 274) (by decide +kernel))) (by decide +kernel)
theorem m_278 : Cond.fieldLink R_Co 28 "WaferRunner$Code" "heights" "[I" ∈ lw_good := lw_in (List.mem_append_right _ (List.mem_of_getElem? (i := 278) (by decide +kernel))) (by decide +kernel)
theorem m_281 : Cond.fieldLink R_Co 31 "WaferRunner$Code" "targets" "[I" ∈ lw_good := lw_in (List.mem_append_right _ (List.mem_of_getElem? (i := 281) (by decide +kernel))) (by decide +kernel)
theorem m_286 : Cond.fieldLink R_Co 34 "WaferRunner$Code" "labels" "[I" ∈ lw_good := lw_in (List.mem_append_right _ (List.mem_of_getElem? (i := 286) (by decide +kernel))) (by decide +kernel)
theorem m_288 : Cond.fieldLink R_Co 37 "WaferRunner$Code" "labelTargets" "[I" ∈ lw_good := lw_in (List.mem_append_right _ (List.mem_of_getElem? (i := 288) (by decide +kernel))) (by decide +kernel)
set_option maxHeartbeats 8000000 in
set_option maxRecDepth 100000 in
theorem c_So_init (l : Launch) (htr : l.stackTraces = false) (G : va_G) (cB cI cJ cZ cG : ClassId) (h0 : Nat) (sz : Nat) : MetX l y_So_init (wx y_So_init b_So_init 1 none) { frames := 1, cells := 0, slots := 0, locals := 12 } (XP G classes (xtys cB cI cJ cZ cG) xE [.ref h0] [(h0, .inr (3, [.null, .int 0, .int 0, .int 0]))] sz) (XQ G classes (va_A [(h0, .inr (3, [.null, .int 0, .int 0, .int 0]))] sz) (fun o w1 => o = .returned none ∧ w1 = [(h0, .inr (3, [.null, .int 0, .int 0, .int 0]))])) 0 0 (va_A [(h0, .inr (3, [.null, .int 0, .int 0, .int 0]))] sz) := by
  refine ex_ofW (cc := b_So_init) (maxL := 1) (ret := none) (by decide) rfl ?_
  intro p e s m args below meth c s₁ B hml hno hv
  obtain ⟨rfl, hsz, hP, hK, hD0, hE⟩ := hv
  have hx := B.exec
  have hb := B.bytes
  have hr := B.returns
  have hts : ∀ w ∈ lw_good, w.before _ s = true := fun w h => atoms_spec (ws := wx y_So_init b_So_init 1 none) B.pre w (List.mem_cons_of_mem _ h)
  have hown : s.vm.findClass R_So = some m.cls := findClass_of_methodNamed B.named
  have hlocks := B.notSynchronized
  have htr9 : e.platform.stackTraces = false := by rw [B.admits.platform]; exact htr
  have hin : meth.name = "<init>" := (name_of_methodNamed B.named B.method).1
  subst hsz
  have hNS := xx_nostat hP
  have hD := hD0.self (sz := s.heap.size)
  generalize hAe : va_A [(h0, .inr (3, [.null, .int 0, .int 0, .int 0]))] s.heap.size = A at hD hE hNS ⊢
  have hA : ∀ q : Nat, s.heap.size ≤ q → A q := fun q h => by rw [← hAe]; exact Or.inr h
  have hS : va_S A s.heap s.heap [] := va_S.rf
  have hl := lv_entry ([.ref h0]) (n := 1) (Nat.le_of_ble_eq_true rfl)
  rw [lg_entry_eq]
  generalize (lg_sl ([.ref h0]) ++ List.replicate (1 - (lg_sl ([.ref h0])).length) Slot.unset).toArray = ls at hl ⊢
  have hl : lv_has ls 1 [(0, .ref h0)] := hl
  refine lv_aload_n hx hb d_So_init_0 rfl (lv_at hl 0 rfl) ?_
  refine W.objInit hx hb hown (hts _ m_47) (hts _ m_34) (hts _ m_35) rfl (by rw [hml]; exact hl.1) rfl d_So_init_1 (Nat.le_of_ble_eq_true rfl) (Nat.le_of_ble_eq_true rfl) ?_
  refine W.eq (g2 := F0 m 4 ls []) rfl ?_
  exact ex_W (fun _ h => ex_mq h) (W.vret hx hb hr (fun t ht hW => ⟨⟨_, ⟨rfl, rfl⟩, by rw [ht]; exact hP, hD⟩, hS.F ht⟩) hS.2.2 d_So_init_4)
set_option maxHeartbeats 8000000 in
set_option maxRecDepth 100000 in
theorem c_BR_init (l : Launch) (htr : l.stackTraces = false) (G : va_G) (cB cI cJ cZ cG : ClassId) (h0 : Nat) (sz : Nat) : MetX l y_BR_init (wx y_BR_init b_BR_init 1 none) { frames := 1, cells := 1, slots := 100, locals := 12 } (XP G classes (xtys cB cI cJ cZ cG) xE [.ref h0] [(h0, .inr (2, [.null, .int 0, .null, .null]))] sz) (XQ G classes (va_A [(h0, .inr (2, [.null, .int 0, .null, .null]))] sz) (fun o w1 => ∃ q_1 : Nat, o = .returned none ∧ w1 = [(h0, .inr (2, [.ref q_1, .int 0, .null, .null])), (q_1, .inl (cI, 100, .inl (fun _ => 0)))])) 1 100 (va_A [(h0, .inr (2, [.null, .int 0, .null, .null]))] sz) := by
  refine ex_ofW (cc := b_BR_init) (maxL := 1) (ret := none) (by decide) rfl ?_
  intro p e s m args below meth c s₁ B hml hno hv
  obtain ⟨rfl, hsz, hP, hK, hD0, hE⟩ := hv
  have hx := B.exec
  have hb := B.bytes
  have hr := B.returns
  have hts : ∀ w ∈ lw_good, w.before _ s = true := fun w h => atoms_spec (ws := wx y_BR_init b_BR_init 1 none) B.pre w (List.mem_cons_of_mem _ h)
  have hown : s.vm.findClass R_BR = some m.cls := findClass_of_methodNamed B.named
  have hlocks := B.notSynchronized
  have htr9 : e.platform.stackTraces = false := by rw [B.admits.platform]; exact htr
  have hin : meth.name = "<init>" := (name_of_methodNamed B.named B.method).1
  subst hsz
  have hNS := xx_nostat hP
  have hD := hD0.self (sz := s.heap.size)
  generalize hAe : va_A [(h0, .inr (2, [.null, .int 0, .null, .null]))] s.heap.size = A at hD hE hNS ⊢
  have hA : ∀ q : Nat, s.heap.size ≤ q → A q := fun q h => by rw [← hAe]; exact Or.inr h
  have hS : va_S A s.heap s.heap [] := va_S.rf
  have hl := lv_entry ([.ref h0]) (n := 1) (Nat.le_of_ble_eq_true rfl)
  rw [lg_entry_eq]
  generalize (lg_sl ([.ref h0]) ++ List.replicate (1 - (lg_sl ([.ref h0])).length) Slot.unset).toArray = ls at hl ⊢
  have hl : lv_has ls 1 [(0, .ref h0)] := hl
  refine lv_aload_n hx hb d_BR_init_0 rfl (lv_at hl 0 rfl) ?_
  refine W.objInit hx hb hown (hts _ m_68) (hts _ m_34) (hts _ m_35) rfl (by rw [hml]; exact hl.1) rfl d_BR_init_1 (Nat.le_of_ble_eq_true rfl) (Nat.le_of_ble_eq_true rfl) ?_
  refine W.eq (g2 := F0 m 4 ls []) rfl ?_
  refine lv_aload_n hx hb d_BR_init_4 rfl (lv_at hl 0 rfl) ?_
  refine lv_bipush (v := 100) hx hb d_BR_init_5 (by decide) ?_
  refine xx_newa (a0 := (100, .inl (fun _ => 0))) (ty := .int) (cA := cI) hx hb rfl hK (hts _ m_82) 1 rfl hP hD hS hA (fun _ => rfl) (by decide) (by decide) (by decide) (Nat.le_of_ble_eq_true rfl) (Nat.le_of_ble_eq_true rfl) d_BR_init_7 (fun q_1 H hP hD hS => ?_)
  refine W.widen (k := 1) (n := 100) (Nat.le_of_ble_eq_true rfl) (Nat.le_of_ble_eq_true rfl) ?_
  have hP : va_P G classes [(h0, .inr (2, [.null, .int 0, .null, .null])), (q_1, .inl (cI, 100, .inl (fun _ => 0)))] H := hP
  have hD : va_D A [(h0, .inr (2, [.null, .int 0, .null, .null])), (q_1, .inl (cI, 100, .inl (fun _ => 0)))] := hD
  refine va_putF (D := G) (ci := 2) (v := .ref q_1) (ty := .array .int) (C := R_BR) (T := F_BR) (N := 4) hx hb hts i_BR t_BR t_BR_ok n_BR hown hK hP hD hS 0 rfl rfl 0 (by decide) (hts _ m_69) (fun _ h9 => h9) rfl hin rfl (by decide +kernel) rfl rfl (Nat.le_of_ble_eq_true rfl) d_BR_init_9 (fun H locs hP hD hS => ?_)
  have hP : va_P G classes [(h0, .inr (2, [.ref q_1, .int 0, .null, .null])), (q_1, .inl (cI, 100, .inl (fun _ => 0)))] H := hP
  have hD : va_D A [(h0, .inr (2, [.ref q_1, .int 0, .null, .null])), (q_1, .inl (cI, 100, .inl (fun _ => 0)))] := hD
  exact ex_W (fun _ h => ex_mq h) (W.vret hx hb hr (fun t ht hW => ⟨⟨_, ⟨q_1, rfl, rfl⟩, by rw [ht]; exact hP, hD⟩, hS.F ht⟩) hS.2.2 d_BR_init_12)
set_option maxHeartbeats 8000000 in
set_option maxRecDepth 100000 in
theorem c_BV_init (l : Launch) (htr : l.stackTraces = false) (G : va_G) (cB cI cJ cZ cG : ClassId) (h0 : Nat) (sz : Nat) : MetX l y_BV_init (wx y_BV_init b_BV_init 1 none) { frames := 1, cells := 6, slots := 2505, locals := 12 } (XP G classes (xtys cB cI cJ cZ cG) xE [.ref h0] [(h0, .inr (5, [.null, .null, .int 0, .null, .int 0, .null, .null, .null, .null, .null, .int 0, .int 0]))] sz) (XQ G classes (va_A [(h0, .inr (5, [.null, .null, .int 0, .null, .int 0, .null, .null, .null, .null, .null, .int 0, .int 0]))] sz) (fun o w1 => ∃ q_1 : Nat, ∃ q_2 : Nat, ∃ q_3 : Nat, ∃ q_4 : Nat, ∃ q_5 : Nat, ∃ q_6 : Nat, o = .returned none ∧ w1 = [(h0, .inr (5, [.null, .null, .int 0, .ref q_1, .int 0, .ref q_2, .ref q_3, .ref q_4, .ref q_5, .ref q_6, .int 0, .int 0])), (q_1, .inl (cI, 2000, .inl (fun _ => 0))), (q_2, .inl (cI, 101, .inl (fun _ => 0))), (q_3, .inl (cI, 101, .inl (fun _ => 0))), (q_4, .inl (cI, 101, .inl (fun _ => 0))), (q_5, .inl (cI, 101, .inl (fun _ => 0))), (q_6, .inl (cZ, 101, .inl (fun _ => 0)))])) 6 2505 (va_A [(h0, .inr (5, [.null, .null, .int 0, .null, .int 0, .null, .null, .null, .null, .null, .int 0, .int 0]))] sz) := by
  refine ex_ofW (cc := b_BV_init) (maxL := 1) (ret := none) (by decide) rfl ?_
  intro p e s m args below meth c s₁ B hml hno hv
  obtain ⟨rfl, hsz, hP, hK, hD0, hE⟩ := hv
  have hx := B.exec
  have hb := B.bytes
  have hr := B.returns
  have hts : ∀ w ∈ lw_good, w.before _ s = true := fun w h => atoms_spec (ws := wx y_BV_init b_BV_init 1 none) B.pre w (List.mem_cons_of_mem _ h)
  have hown : s.vm.findClass R_BV = some m.cls := findClass_of_methodNamed B.named
  have hlocks := B.notSynchronized
  have htr9 : e.platform.stackTraces = false := by rw [B.admits.platform]; exact htr
  have hin : meth.name = "<init>" := (name_of_methodNamed B.named B.method).1
  subst hsz
  have hNS := xx_nostat hP
  have hD := hD0.self (sz := s.heap.size)
  generalize hAe : va_A [(h0, .inr (5, [.null, .null, .int 0, .null, .int 0, .null, .null, .null, .null, .null, .int 0, .int 0]))] s.heap.size = A at hD hE hNS ⊢
  have hA : ∀ q : Nat, s.heap.size ≤ q → A q := fun q h => by rw [← hAe]; exact Or.inr h
  have hS : va_S A s.heap s.heap [] := va_S.rf
  have hl := lv_entry ([.ref h0]) (n := 1) (Nat.le_of_ble_eq_true rfl)
  rw [lg_entry_eq]
  generalize (lg_sl ([.ref h0]) ++ List.replicate (1 - (lg_sl ([.ref h0])).length) Slot.unset).toArray = ls at hl ⊢
  have hl : lv_has ls 1 [(0, .ref h0)] := hl
  refine lv_aload_n hx hb d_BV_init_0 rfl (lv_at hl 0 rfl) ?_
  refine W.objInit hx hb hown (hts _ m_107) (hts _ m_34) (hts _ m_35) rfl (by rw [hml]; exact hl.1) rfl d_BV_init_1 (Nat.le_of_ble_eq_true rfl) (Nat.le_of_ble_eq_true rfl) ?_
  refine W.eq (g2 := F0 m 4 ls []) rfl ?_
  refine lv_aload_n hx hb d_BV_init_4 rfl (lv_at hl 0 rfl) ?_
  refine lv_sipush (v := 2000) hx hb d_BV_init_5 (by decide) ?_
  refine xx_newa (a0 := (2000, .inl (fun _ => 0))) (ty := .int) (cA := cI) hx hb rfl hK (hts _ m_82) 1 rfl hP hD hS hA (fun _ => rfl) (by decide) (by decide) (by decide) (Nat.le_of_ble_eq_true rfl) (Nat.le_of_ble_eq_true rfl) d_BV_init_8 (fun q_1 H hP hD hS => ?_)
  refine W.widen (k := 1) (n := 2000) (Nat.le_of_ble_eq_true rfl) (Nat.le_of_ble_eq_true rfl) ?_
  have hP : va_P G classes [(h0, .inr (5, [.null, .null, .int 0, .null, .int 0, .null, .null, .null, .null, .null, .int 0, .int 0])), (q_1, .inl (cI, 2000, .inl (fun _ => 0)))] H := hP
  have hD : va_D A [(h0, .inr (5, [.null, .null, .int 0, .null, .int 0, .null, .null, .null, .null, .null, .int 0, .int 0])), (q_1, .inl (cI, 2000, .inl (fun _ => 0)))] := hD
  refine va_putF (D := G) (ci := 5) (v := .ref q_1) (ty := .array .int) (C := R_BV) (T := F_BV) (N := 12) hx hb hts i_BV t_BV t_BV_ok n_BV hown hK hP hD hS 0 rfl rfl 3 (by decide) (hts _ m_111) (fun _ h9 => h9) rfl hin rfl (by decide +kernel) rfl rfl (Nat.le_of_ble_eq_true rfl) d_BV_init_10 (fun H locs hP hD hS => ?_)
  have hP : va_P G classes [(h0, .inr (5, [.null, .null, .int 0, .ref q_1, .int 0, .null, .null, .null, .null, .null, .int 0, .int 0])), (q_1, .inl (cI, 2000, .inl (fun _ => 0)))] H := hP
  have hD : va_D A [(h0, .inr (5, [.null, .null, .int 0, .ref q_1, .int 0, .null, .null, .null, .null, .null, .int 0, .int 0])), (q_1, .inl (cI, 2000, .inl (fun _ => 0)))] := hD
  refine lv_aload_n hx hb d_BV_init_13 rfl (lv_at hl 0 rfl) ?_
  refine lv_bipush (v := 101) hx hb d_BV_init_14 (by decide) ?_
  refine xx_newa (a0 := (101, .inl (fun _ => 0))) (ty := .int) (cA := cI) hx hb rfl hK (hts _ m_82) 1 rfl hP hD hS hA (fun _ => rfl) (by decide) (by decide) (by decide) (Nat.le_of_ble_eq_true rfl) (Nat.le_of_ble_eq_true rfl) d_BV_init_16 (fun q_2 H hP hD hS => ?_)
  refine W.widen (k := 2) (n := 2101) (Nat.le_of_ble_eq_true rfl) (Nat.le_of_ble_eq_true rfl) ?_
  have hP : va_P G classes [(h0, .inr (5, [.null, .null, .int 0, .ref q_1, .int 0, .null, .null, .null, .null, .null, .int 0, .int 0])), (q_1, .inl (cI, 2000, .inl (fun _ => 0))), (q_2, .inl (cI, 101, .inl (fun _ => 0)))] H := hP
  have hD : va_D A [(h0, .inr (5, [.null, .null, .int 0, .ref q_1, .int 0, .null, .null, .null, .null, .null, .int 0, .int 0])), (q_1, .inl (cI, 2000, .inl (fun _ => 0))), (q_2, .inl (cI, 101, .inl (fun _ => 0)))] := hD
  refine va_putF (D := G) (ci := 5) (v := .ref q_2) (ty := .array .int) (C := R_BV) (T := F_BV) (N := 12) hx hb hts i_BV t_BV t_BV_ok n_BV hown hK hP hD hS 0 rfl rfl 5 (by decide) (hts _ m_113) (fun _ h9 => h9) rfl hin rfl (by decide +kernel) rfl rfl (Nat.le_of_ble_eq_true rfl) d_BV_init_18 (fun H locs hP hD hS => ?_)
  have hP : va_P G classes [(h0, .inr (5, [.null, .null, .int 0, .ref q_1, .int 0, .ref q_2, .null, .null, .null, .null, .int 0, .int 0])), (q_1, .inl (cI, 2000, .inl (fun _ => 0))), (q_2, .inl (cI, 101, .inl (fun _ => 0)))] H := hP
  have hD : va_D A [(h0, .inr (5, [.null, .null, .int 0, .ref q_1, .int 0, .ref q_2, .null, .null, .null, .null, .int 0, .int 0])), (q_1, .inl (cI, 2000, .inl (fun _ => 0))), (q_2, .inl (cI, 101, .inl (fun _ => 0)))] := hD
  refine lv_aload_n hx hb d_BV_init_21 rfl (lv_at hl 0 rfl) ?_
  refine lv_bipush (v := 101) hx hb d_BV_init_22 (by decide) ?_
  refine xx_newa (a0 := (101, .inl (fun _ => 0))) (ty := .int) (cA := cI) hx hb rfl hK (hts _ m_82) 1 rfl hP hD hS hA (fun _ => rfl) (by decide) (by decide) (by decide) (Nat.le_of_ble_eq_true rfl) (Nat.le_of_ble_eq_true rfl) d_BV_init_24 (fun q_3 H hP hD hS => ?_)
  refine W.widen (k := 3) (n := 2202) (Nat.le_of_ble_eq_true rfl) (Nat.le_of_ble_eq_true rfl) ?_
  have hP : va_P G classes [(h0, .inr (5, [.null, .null, .int 0, .ref q_1, .int 0, .ref q_2, .null, .null, .null, .null, .int 0, .int 0])), (q_1, .inl (cI, 2000, .inl (fun _ => 0))), (q_2, .inl (cI, 101, .inl (fun _ => 0))), (q_3, .inl (cI, 101, .inl (fun _ => 0)))] H := hP
  have hD : va_D A [(h0, .inr (5, [.null, .null, .int 0, .ref q_1, .int 0, .ref q_2, .null, .null, .null, .null, .int 0, .int 0])), (q_1, .inl (cI, 2000, .inl (fun _ => 0))), (q_2, .inl (cI, 101, .inl (fun _ => 0))), (q_3, .inl (cI, 101, .inl (fun _ => 0)))] := hD
  refine va_putF (D := G) (ci := 5) (v := .ref q_3) (ty := .array .int) (C := R_BV) (T := F_BV) (N := 12) hx hb hts i_BV t_BV t_BV_ok n_BV hown hK hP hD hS 0 rfl rfl 6 (by decide) (hts _ m_114) (fun _ h9 => h9) rfl hin rfl (by decide +kernel) rfl rfl (Nat.le_of_ble_eq_true rfl) d_BV_init_26 (fun H locs hP hD hS => ?_)
  have hP : va_P G classes [(h0, .inr (5, [.null, .null, .int 0, .ref q_1, .int 0, .ref q_2, .ref q_3, .null, .null, .null, .int 0, .int 0])), (q_1, .inl (cI, 2000, .inl (fun _ => 0))), (q_2, .inl (cI, 101, .inl (fun _ => 0))), (q_3, .inl (cI, 101, .inl (fun _ => 0)))] H := hP
  have hD : va_D A [(h0, .inr (5, [.null, .null, .int 0, .ref q_1, .int 0, .ref q_2, .ref q_3, .null, .null, .null, .int 0, .int 0])), (q_1, .inl (cI, 2000, .inl (fun _ => 0))), (q_2, .inl (cI, 101, .inl (fun _ => 0))), (q_3, .inl (cI, 101, .inl (fun _ => 0)))] := hD
  refine lv_aload_n hx hb d_BV_init_29 rfl (lv_at hl 0 rfl) ?_
  refine lv_bipush (v := 101) hx hb d_BV_init_30 (by decide) ?_
  refine xx_newa (a0 := (101, .inl (fun _ => 0))) (ty := .int) (cA := cI) hx hb rfl hK (hts _ m_82) 1 rfl hP hD hS hA (fun _ => rfl) (by decide) (by decide) (by decide) (Nat.le_of_ble_eq_true rfl) (Nat.le_of_ble_eq_true rfl) d_BV_init_32 (fun q_4 H hP hD hS => ?_)
  refine W.widen (k := 4) (n := 2303) (Nat.le_of_ble_eq_true rfl) (Nat.le_of_ble_eq_true rfl) ?_
  have hP : va_P G classes [(h0, .inr (5, [.null, .null, .int 0, .ref q_1, .int 0, .ref q_2, .ref q_3, .null, .null, .null, .int 0, .int 0])), (q_1, .inl (cI, 2000, .inl (fun _ => 0))), (q_2, .inl (cI, 101, .inl (fun _ => 0))), (q_3, .inl (cI, 101, .inl (fun _ => 0))), (q_4, .inl (cI, 101, .inl (fun _ => 0)))] H := hP
  have hD : va_D A [(h0, .inr (5, [.null, .null, .int 0, .ref q_1, .int 0, .ref q_2, .ref q_3, .null, .null, .null, .int 0, .int 0])), (q_1, .inl (cI, 2000, .inl (fun _ => 0))), (q_2, .inl (cI, 101, .inl (fun _ => 0))), (q_3, .inl (cI, 101, .inl (fun _ => 0))), (q_4, .inl (cI, 101, .inl (fun _ => 0)))] := hD
  refine va_putF (D := G) (ci := 5) (v := .ref q_4) (ty := .array .int) (C := R_BV) (T := F_BV) (N := 12) hx hb hts i_BV t_BV t_BV_ok n_BV hown hK hP hD hS 0 rfl rfl 7 (by decide) (hts _ m_115) (fun _ h9 => h9) rfl hin rfl (by decide +kernel) rfl rfl (Nat.le_of_ble_eq_true rfl) d_BV_init_34 (fun H locs hP hD hS => ?_)
  have hP : va_P G classes [(h0, .inr (5, [.null, .null, .int 0, .ref q_1, .int 0, .ref q_2, .ref q_3, .ref q_4, .null, .null, .int 0, .int 0])), (q_1, .inl (cI, 2000, .inl (fun _ => 0))), (q_2, .inl (cI, 101, .inl (fun _ => 0))), (q_3, .inl (cI, 101, .inl (fun _ => 0))), (q_4, .inl (cI, 101, .inl (fun _ => 0)))] H := hP
  have hD : va_D A [(h0, .inr (5, [.null, .null, .int 0, .ref q_1, .int 0, .ref q_2, .ref q_3, .ref q_4, .null, .null, .int 0, .int 0])), (q_1, .inl (cI, 2000, .inl (fun _ => 0))), (q_2, .inl (cI, 101, .inl (fun _ => 0))), (q_3, .inl (cI, 101, .inl (fun _ => 0))), (q_4, .inl (cI, 101, .inl (fun _ => 0)))] := hD
  refine lv_aload_n hx hb d_BV_init_37 rfl (lv_at hl 0 rfl) ?_
  refine lv_bipush (v := 101) hx hb d_BV_init_38 (by decide) ?_
  refine xx_newa (a0 := (101, .inl (fun _ => 0))) (ty := .int) (cA := cI) hx hb rfl hK (hts _ m_82) 1 rfl hP hD hS hA (fun _ => rfl) (by decide) (by decide) (by decide) (Nat.le_of_ble_eq_true rfl) (Nat.le_of_ble_eq_true rfl) d_BV_init_40 (fun q_5 H hP hD hS => ?_)
  refine W.widen (k := 5) (n := 2404) (Nat.le_of_ble_eq_true rfl) (Nat.le_of_ble_eq_true rfl) ?_
  have hP : va_P G classes [(h0, .inr (5, [.null, .null, .int 0, .ref q_1, .int 0, .ref q_2, .ref q_3, .ref q_4, .null, .null, .int 0, .int 0])), (q_1, .inl (cI, 2000, .inl (fun _ => 0))), (q_2, .inl (cI, 101, .inl (fun _ => 0))), (q_3, .inl (cI, 101, .inl (fun _ => 0))), (q_4, .inl (cI, 101, .inl (fun _ => 0))), (q_5, .inl (cI, 101, .inl (fun _ => 0)))] H := hP
  have hD : va_D A [(h0, .inr (5, [.null, .null, .int 0, .ref q_1, .int 0, .ref q_2, .ref q_3, .ref q_4, .null, .null, .int 0, .int 0])), (q_1, .inl (cI, 2000, .inl (fun _ => 0))), (q_2, .inl (cI, 101, .inl (fun _ => 0))), (q_3, .inl (cI, 101, .inl (fun _ => 0))), (q_4, .inl (cI, 101, .inl (fun _ => 0))), (q_5, .inl (cI, 101, .inl (fun _ => 0)))] := hD
  refine va_putF (D := G) (ci := 5) (v := .ref q_5) (ty := .array .int) (C := R_BV) (T := F_BV) (N := 12) hx hb hts i_BV t_BV t_BV_ok n_BV hown hK hP hD hS 0 rfl rfl 8 (by decide) (hts _ m_116) (fun _ h9 => h9) rfl hin rfl (by decide +kernel) rfl rfl (Nat.le_of_ble_eq_true rfl) d_BV_init_42 (fun H locs hP hD hS => ?_)
  have hP : va_P G classes [(h0, .inr (5, [.null, .null, .int 0, .ref q_1, .int 0, .ref q_2, .ref q_3, .ref q_4, .ref q_5, .null, .int 0, .int 0])), (q_1, .inl (cI, 2000, .inl (fun _ => 0))), (q_2, .inl (cI, 101, .inl (fun _ => 0))), (q_3, .inl (cI, 101, .inl (fun _ => 0))), (q_4, .inl (cI, 101, .inl (fun _ => 0))), (q_5, .inl (cI, 101, .inl (fun _ => 0)))] H := hP
  have hD : va_D A [(h0, .inr (5, [.null, .null, .int 0, .ref q_1, .int 0, .ref q_2, .ref q_3, .ref q_4, .ref q_5, .null, .int 0, .int 0])), (q_1, .inl (cI, 2000, .inl (fun _ => 0))), (q_2, .inl (cI, 101, .inl (fun _ => 0))), (q_3, .inl (cI, 101, .inl (fun _ => 0))), (q_4, .inl (cI, 101, .inl (fun _ => 0))), (q_5, .inl (cI, 101, .inl (fun _ => 0)))] := hD
  refine lv_aload_n hx hb d_BV_init_45 rfl (lv_at hl 0 rfl) ?_
  refine lv_bipush (v := 101) hx hb d_BV_init_46 (by decide) ?_
  refine xx_newa (a0 := (101, .inl (fun _ => 0))) (ty := .boolean) (cA := cZ) hx hb rfl hK (hts _ m_145) 3 rfl hP hD hS hA (fun _ => rfl) (by decide) (by decide) (by decide) (Nat.le_of_ble_eq_true rfl) (Nat.le_of_ble_eq_true rfl) d_BV_init_48 (fun q_6 H hP hD hS => ?_)
  refine W.widen (k := 6) (n := 2505) (Nat.le_of_ble_eq_true rfl) (Nat.le_of_ble_eq_true rfl) ?_
  have hP : va_P G classes [(h0, .inr (5, [.null, .null, .int 0, .ref q_1, .int 0, .ref q_2, .ref q_3, .ref q_4, .ref q_5, .null, .int 0, .int 0])), (q_1, .inl (cI, 2000, .inl (fun _ => 0))), (q_2, .inl (cI, 101, .inl (fun _ => 0))), (q_3, .inl (cI, 101, .inl (fun _ => 0))), (q_4, .inl (cI, 101, .inl (fun _ => 0))), (q_5, .inl (cI, 101, .inl (fun _ => 0))), (q_6, .inl (cZ, 101, .inl (fun _ => 0)))] H := hP
  have hD : va_D A [(h0, .inr (5, [.null, .null, .int 0, .ref q_1, .int 0, .ref q_2, .ref q_3, .ref q_4, .ref q_5, .null, .int 0, .int 0])), (q_1, .inl (cI, 2000, .inl (fun _ => 0))), (q_2, .inl (cI, 101, .inl (fun _ => 0))), (q_3, .inl (cI, 101, .inl (fun _ => 0))), (q_4, .inl (cI, 101, .inl (fun _ => 0))), (q_5, .inl (cI, 101, .inl (fun _ => 0))), (q_6, .inl (cZ, 101, .inl (fun _ => 0)))] := hD
  refine va_putF (D := G) (ci := 5) (v := .ref q_6) (ty := .array .boolean) (C := R_BV) (T := F_BV) (N := 12) hx hb hts i_BV t_BV t_BV_ok n_BV hown hK hP hD hS 0 rfl rfl 9 (by decide) (hts _ m_117) (fun _ h9 => h9) rfl hin rfl (by decide +kernel) rfl rfl (Nat.le_of_ble_eq_true rfl) d_BV_init_50 (fun H locs hP hD hS => ?_)
  have hP : va_P G classes [(h0, .inr (5, [.null, .null, .int 0, .ref q_1, .int 0, .ref q_2, .ref q_3, .ref q_4, .ref q_5, .ref q_6, .int 0, .int 0])), (q_1, .inl (cI, 2000, .inl (fun _ => 0))), (q_2, .inl (cI, 101, .inl (fun _ => 0))), (q_3, .inl (cI, 101, .inl (fun _ => 0))), (q_4, .inl (cI, 101, .inl (fun _ => 0))), (q_5, .inl (cI, 101, .inl (fun _ => 0))), (q_6, .inl (cZ, 101, .inl (fun _ => 0)))] H := hP
  have hD : va_D A [(h0, .inr (5, [.null, .null, .int 0, .ref q_1, .int 0, .ref q_2, .ref q_3, .ref q_4, .ref q_5, .ref q_6, .int 0, .int 0])), (q_1, .inl (cI, 2000, .inl (fun _ => 0))), (q_2, .inl (cI, 101, .inl (fun _ => 0))), (q_3, .inl (cI, 101, .inl (fun _ => 0))), (q_4, .inl (cI, 101, .inl (fun _ => 0))), (q_5, .inl (cI, 101, .inl (fun _ => 0))), (q_6, .inl (cZ, 101, .inl (fun _ => 0)))] := hD
  exact ex_W (fun _ h => ex_mq h) (W.vret hx hb hr (fun t ht hW => ⟨⟨_, ⟨q_1, q_2, q_3, q_4, q_5, q_6, rfl, rfl⟩, by rw [ht]; exact hP, hD⟩, hS.F ht⟩) hS.2.2 d_BV_init_53)
set_option maxHeartbeats 8000000 in
set_option maxRecDepth 100000 in
theorem c_Ex_init (l : Launch) (htr : l.stackTraces = false) (G : va_G) (cB cI cJ cZ cG : ClassId) (h0 : Nat) (sz : Nat) : MetX l y_Ex_init (wx y_Ex_init b_Ex_init 1 none) { frames := 1, cells := 4, slots := 1320, locals := 12 } (XP G classes (xtys cB cI cJ cZ cG) xE [.ref h0] [(h0, .inr (8, [.int 0, .null, .null, .null, .null]))] sz) (XQ G classes (va_A [(h0, .inr (8, [.int 0, .null, .null, .null, .null]))] sz) (fun o w1 => ∃ q_1 : Nat, ∃ q_2 : Nat, ∃ q_3 : Nat, ∃ q_4 : Nat, o = .returned none ∧ w1 = [(h0, .inr (8, [.int 0, .ref q_1, .ref q_2, .ref q_3, .ref q_4])), (q_1, .inl (cI, 40, .inl (fun _ => 0))), (q_2, .inl (cI, 40, .inl (fun _ => 0))), (q_3, .inl (cI, 40, .inl (fun _ => 0))), (q_4, .inl (cB, 1200, .inl (fun _ => 0)))])) 4 1320 (va_A [(h0, .inr (8, [.int 0, .null, .null, .null, .null]))] sz) := by
  refine ex_ofW (cc := b_Ex_init) (maxL := 1) (ret := none) (by decide) rfl ?_
  intro p e s m args below meth c s₁ B hml hno hv
  obtain ⟨rfl, hsz, hP, hK, hD0, hE⟩ := hv
  have hx := B.exec
  have hb := B.bytes
  have hr := B.returns
  have hts : ∀ w ∈ lw_good, w.before _ s = true := fun w h => atoms_spec (ws := wx y_Ex_init b_Ex_init 1 none) B.pre w (List.mem_cons_of_mem _ h)
  have hown : s.vm.findClass R_Ex = some m.cls := findClass_of_methodNamed B.named
  have hlocks := B.notSynchronized
  have htr9 : e.platform.stackTraces = false := by rw [B.admits.platform]; exact htr
  have hin : meth.name = "<init>" := (name_of_methodNamed B.named B.method).1
  subst hsz
  have hNS := xx_nostat hP
  have hD := hD0.self (sz := s.heap.size)
  generalize hAe : va_A [(h0, .inr (8, [.int 0, .null, .null, .null, .null]))] s.heap.size = A at hD hE hNS ⊢
  have hA : ∀ q : Nat, s.heap.size ≤ q → A q := fun q h => by rw [← hAe]; exact Or.inr h
  have hS : va_S A s.heap s.heap [] := va_S.rf
  have hl := lv_entry ([.ref h0]) (n := 1) (Nat.le_of_ble_eq_true rfl)
  rw [lg_entry_eq]
  generalize (lg_sl ([.ref h0]) ++ List.replicate (1 - (lg_sl ([.ref h0])).length) Slot.unset).toArray = ls at hl ⊢
  have hl : lv_has ls 1 [(0, .ref h0)] := hl
  refine lv_aload_n hx hb d_Ex_init_0 rfl (lv_at hl 0 rfl) ?_
  refine W.objInit hx hb hown (hts _ m_224) (hts _ m_34) (hts _ m_35) rfl (by rw [hml]; exact hl.1) rfl d_Ex_init_1 (Nat.le_of_ble_eq_true rfl) (Nat.le_of_ble_eq_true rfl) ?_
  refine W.eq (g2 := F0 m 4 ls []) rfl ?_
  refine lv_aload_n hx hb d_Ex_init_4 rfl (lv_at hl 0 rfl) ?_
  refine lv_bipush (v := 40) hx hb d_Ex_init_5 (by decide) ?_
  refine xx_newa (a0 := (40, .inl (fun _ => 0))) (ty := .int) (cA := cI) hx hb rfl hK (hts _ m_82) 1 rfl hP hD hS hA (fun _ => rfl) (by decide) (by decide) (by decide) (Nat.le_of_ble_eq_true rfl) (Nat.le_of_ble_eq_true rfl) d_Ex_init_7 (fun q_1 H hP hD hS => ?_)
  refine W.widen (k := 1) (n := 40) (Nat.le_of_ble_eq_true rfl) (Nat.le_of_ble_eq_true rfl) ?_
  have hP : va_P G classes [(h0, .inr (8, [.int 0, .null, .null, .null, .null])), (q_1, .inl (cI, 40, .inl (fun _ => 0)))] H := hP
  have hD : va_D A [(h0, .inr (8, [.int 0, .null, .null, .null, .null])), (q_1, .inl (cI, 40, .inl (fun _ => 0)))] := hD
  refine va_putF (D := G) (ci := 8) (v := .ref q_1) (ty := .array .int) (C := R_Ex) (T := F_Ex) (N := 5) hx hb hts i_Ex t_Ex t_Ex_ok n_Ex hown hK hP hD hS 0 rfl rfl 1 (by decide) (hts _ m_229) (fun _ h9 => h9) rfl hin rfl (by decide +kernel) rfl rfl (Nat.le_of_ble_eq_true rfl) d_Ex_init_9 (fun H locs hP hD hS => ?_)
  have hP : va_P G classes [(h0, .inr (8, [.int 0, .ref q_1, .null, .null, .null])), (q_1, .inl (cI, 40, .inl (fun _ => 0)))] H := hP
  have hD : va_D A [(h0, .inr (8, [.int 0, .ref q_1, .null, .null, .null])), (q_1, .inl (cI, 40, .inl (fun _ => 0)))] := hD
  refine lv_aload_n hx hb d_Ex_init_12 rfl (lv_at hl 0 rfl) ?_
  refine lv_bipush (v := 40) hx hb d_Ex_init_13 (by decide) ?_
  refine xx_newa (a0 := (40, .inl (fun _ => 0))) (ty := .int) (cA := cI) hx hb rfl hK (hts _ m_82) 1 rfl hP hD hS hA (fun _ => rfl) (by decide) (by decide) (by decide) (Nat.le_of_ble_eq_true rfl) (Nat.le_of_ble_eq_true rfl) d_Ex_init_15 (fun q_2 H hP hD hS => ?_)
  refine W.widen (k := 2) (n := 80) (Nat.le_of_ble_eq_true rfl) (Nat.le_of_ble_eq_true rfl) ?_
  have hP : va_P G classes [(h0, .inr (8, [.int 0, .ref q_1, .null, .null, .null])), (q_1, .inl (cI, 40, .inl (fun _ => 0))), (q_2, .inl (cI, 40, .inl (fun _ => 0)))] H := hP
  have hD : va_D A [(h0, .inr (8, [.int 0, .ref q_1, .null, .null, .null])), (q_1, .inl (cI, 40, .inl (fun _ => 0))), (q_2, .inl (cI, 40, .inl (fun _ => 0)))] := hD
  refine va_putF (D := G) (ci := 8) (v := .ref q_2) (ty := .array .int) (C := R_Ex) (T := F_Ex) (N := 5) hx hb hts i_Ex t_Ex t_Ex_ok n_Ex hown hK hP hD hS 0 rfl rfl 2 (by decide) (hts _ m_232) (fun _ h9 => h9) rfl hin rfl (by decide +kernel) rfl rfl (Nat.le_of_ble_eq_true rfl) d_Ex_init_17 (fun H locs hP hD hS => ?_)
  have hP : va_P G classes [(h0, .inr (8, [.int 0, .ref q_1, .ref q_2, .null, .null])), (q_1, .inl (cI, 40, .inl (fun _ => 0))), (q_2, .inl (cI, 40, .inl (fun _ => 0)))] H := hP
  have hD : va_D A [(h0, .inr (8, [.int 0, .ref q_1, .ref q_2, .null, .null])), (q_1, .inl (cI, 40, .inl (fun _ => 0))), (q_2, .inl (cI, 40, .inl (fun _ => 0)))] := hD
  refine lv_aload_n hx hb d_Ex_init_20 rfl (lv_at hl 0 rfl) ?_
  refine lv_bipush (v := 40) hx hb d_Ex_init_21 (by decide) ?_
  refine xx_newa (a0 := (40, .inl (fun _ => 0))) (ty := .int) (cA := cI) hx hb rfl hK (hts _ m_82) 1 rfl hP hD hS hA (fun _ => rfl) (by decide) (by decide) (by decide) (Nat.le_of_ble_eq_true rfl) (Nat.le_of_ble_eq_true rfl) d_Ex_init_23 (fun q_3 H hP hD hS => ?_)
  refine W.widen (k := 3) (n := 120) (Nat.le_of_ble_eq_true rfl) (Nat.le_of_ble_eq_true rfl) ?_
  have hP : va_P G classes [(h0, .inr (8, [.int 0, .ref q_1, .ref q_2, .null, .null])), (q_1, .inl (cI, 40, .inl (fun _ => 0))), (q_2, .inl (cI, 40, .inl (fun _ => 0))), (q_3, .inl (cI, 40, .inl (fun _ => 0)))] H := hP
  have hD : va_D A [(h0, .inr (8, [.int 0, .ref q_1, .ref q_2, .null, .null])), (q_1, .inl (cI, 40, .inl (fun _ => 0))), (q_2, .inl (cI, 40, .inl (fun _ => 0))), (q_3, .inl (cI, 40, .inl (fun _ => 0)))] := hD
  refine va_putF (D := G) (ci := 8) (v := .ref q_3) (ty := .array .int) (C := R_Ex) (T := F_Ex) (N := 5) hx hb hts i_Ex t_Ex t_Ex_ok n_Ex hown hK hP hD hS 0 rfl rfl 3 (by decide) (hts _ m_235) (fun _ h9 => h9) rfl hin rfl (by decide +kernel) rfl rfl (Nat.le_of_ble_eq_true rfl) d_Ex_init_25 (fun H locs hP hD hS => ?_)
  have hP : va_P G classes [(h0, .inr (8, [.int 0, .ref q_1, .ref q_2, .ref q_3, .null])), (q_1, .inl (cI, 40, .inl (fun _ => 0))), (q_2, .inl (cI, 40, .inl (fun _ => 0))), (q_3, .inl (cI, 40, .inl (fun _ => 0)))] H := hP
  have hD : va_D A [(h0, .inr (8, [.int 0, .ref q_1, .ref q_2, .ref q_3, .null])), (q_1, .inl (cI, 40, .inl (fun _ => 0))), (q_2, .inl (cI, 40, .inl (fun _ => 0))), (q_3, .inl (cI, 40, .inl (fun _ => 0)))] := hD
  refine lv_aload_n hx hb d_Ex_init_28 rfl (lv_at hl 0 rfl) ?_
  refine lv_sipush (v := 1200) hx hb d_Ex_init_29 (by decide) ?_
  refine xx_newa (a0 := (1200, .inl (fun _ => 0))) (ty := .byte) (cA := cB) hx hb rfl hK (hts _ m_61) 0 rfl hP hD hS hA (fun _ => rfl) (by decide) (by decide) (by decide) (Nat.le_of_ble_eq_true rfl) (Nat.le_of_ble_eq_true rfl) d_Ex_init_32 (fun q_4 H hP hD hS => ?_)
  refine W.widen (k := 4) (n := 1320) (Nat.le_of_ble_eq_true rfl) (Nat.le_of_ble_eq_true rfl) ?_
  have hP : va_P G classes [(h0, .inr (8, [.int 0, .ref q_1, .ref q_2, .ref q_3, .null])), (q_1, .inl (cI, 40, .inl (fun _ => 0))), (q_2, .inl (cI, 40, .inl (fun _ => 0))), (q_3, .inl (cI, 40, .inl (fun _ => 0))), (q_4, .inl (cB, 1200, .inl (fun _ => 0)))] H := hP
  have hD : va_D A [(h0, .inr (8, [.int 0, .ref q_1, .ref q_2, .ref q_3, .null])), (q_1, .inl (cI, 40, .inl (fun _ => 0))), (q_2, .inl (cI, 40, .inl (fun _ => 0))), (q_3, .inl (cI, 40, .inl (fun _ => 0))), (q_4, .inl (cB, 1200, .inl (fun _ => 0)))] := hD
  refine va_putF (D := G) (ci := 8) (v := .ref q_4) (ty := .array .byte) (C := R_Ex) (T := F_Ex) (N := 5) hx hb hts i_Ex t_Ex t_Ex_ok n_Ex hown hK hP hD hS 0 rfl rfl 4 (by decide) (hts _ m_237) (fun _ h9 => h9) rfl hin rfl (by decide +kernel) rfl rfl (Nat.le_of_ble_eq_true rfl) d_Ex_init_34 (fun H locs hP hD hS => ?_)
  have hP : va_P G classes [(h0, .inr (8, [.int 0, .ref q_1, .ref q_2, .ref q_3, .ref q_4])), (q_1, .inl (cI, 40, .inl (fun _ => 0))), (q_2, .inl (cI, 40, .inl (fun _ => 0))), (q_3, .inl (cI, 40, .inl (fun _ => 0))), (q_4, .inl (cB, 1200, .inl (fun _ => 0)))] H := hP
  have hD : va_D A [(h0, .inr (8, [.int 0, .ref q_1, .ref q_2, .ref q_3, .ref q_4])), (q_1, .inl (cI, 40, .inl (fun _ => 0))), (q_2, .inl (cI, 40, .inl (fun _ => 0))), (q_3, .inl (cI, 40, .inl (fun _ => 0))), (q_4, .inl (cB, 1200, .inl (fun _ => 0)))] := hD
  exact ex_W (fun _ h => ex_mq h) (W.vret hx hb hr (fun t ht hW => ⟨⟨_, ⟨q_1, q_2, q_3, q_4, rfl, rfl⟩, by rw [ht]; exact hP, hD⟩, hS.F ht⟩) hS.2.2 d_Ex_init_37)
set_option maxHeartbeats 8000000 in
set_option maxRecDepth 100000 in
theorem c_Co_init (l : Launch) (htr : l.stackTraces = false) (G : va_G) (cB cI cJ cZ cG : ClassId) (h0 : Nat) (sz : Nat) : MetX l y_Co_init (wx y_Co_init b_Co_init 1 none) { frames := 1, cells := 9, slots := 18000, locals := 12 } (XP G classes (xtys cB cI cJ cZ cG) xE [.ref h0] [(h0, .inr (9, [.int 0, .null, .null, .null, .null, .null, .null, .null, .int 0, .null, .null]))] sz) (XQ G classes (va_A [(h0, .inr (9, [.int 0, .null, .null, .null, .null, .null, .null, .null, .int 0, .null, .null]))] sz) (fun o w1 => ∃ q_1 : Nat, ∃ q_2 : Nat, ∃ q_3 : Nat, ∃ q_4 : Nat, ∃ q_5 : Nat, ∃ q_6 : Nat, ∃ q_7 : Nat, ∃ q_8 : Nat, ∃ q_9 : Nat, o = .returned none ∧ w1 = [(h0, .inr (9, [.int 0, .ref q_1, .ref q_2, .ref q_3, .ref q_4, .ref q_5, .ref q_6, .ref q_7, .int 0, .ref q_8, .ref q_9])), (q_1, .inl (cI, 2000, .inl (fun _ => 0))), (q_2, .inl (cJ, 2000, .inr (.inl (fun _ => 0)))), (q_3, .inl (cI, 2000, .inl (fun _ => 0))), (q_4, .inl (cI, 2000, .inl (fun _ => 0))), (q_5, .inl (cI, 2000, .inl (fun _ => 0))), (q_6, .inl (cI, 2000, .inl (fun _ => 0))), (q_7, .inl (cI, 2000, .inl (fun _ => 0))), (q_8, .inl (cI, 2000, .inl (fun _ => 0))), (q_9, .inl (cI, 2000, .inl (fun _ => 0)))])) 9 18000 (va_A [(h0, .inr (9, [.int 0, .null, .null, .null, .null, .null, .null, .null, .int 0, .null, .null]))] sz) := by
  refine ex_ofW (cc := b_Co_init) (maxL := 1) (ret := none) (by decide) rfl ?_
  intro p e s m args below meth c s₁ B hml hno hv
  obtain ⟨rfl, hsz, hP, hK, hD0, hE⟩ := hv
  have hx := B.exec
  have hb := B.bytes
  have hr := B.returns
  have hts : ∀ w ∈ lw_good, w.before _ s = true := fun w h => atoms_spec (ws := wx y_Co_init b_Co_init 1 none) B.pre w (List.mem_cons_of_mem _ h)
  have hown : s.vm.findClass R_Co = some m.cls := findClass_of_methodNamed B.named
  have hlocks := B.notSynchronized
  have htr9 : e.platform.stackTraces = false := by rw [B.admits.platform]; exact htr
  have hin : meth.name = "<init>" := (name_of_methodNamed B.named B.method).1
  subst hsz
  have hNS := xx_nostat hP
  have hD := hD0.self (sz := s.heap.size)
  generalize hAe : va_A [(h0, .inr (9, [.int 0, .null, .null, .null, .null, .null, .null, .null, .int 0, .null, .null]))] s.heap.size = A at hD hE hNS ⊢
  have hA : ∀ q : Nat, s.heap.size ≤ q → A q := fun q h => by rw [← hAe]; exact Or.inr h
  have hS : va_S A s.heap s.heap [] := va_S.rf
  have hl := lv_entry ([.ref h0]) (n := 1) (Nat.le_of_ble_eq_true rfl)
  rw [lg_entry_eq]
  generalize (lg_sl ([.ref h0]) ++ List.replicate (1 - (lg_sl ([.ref h0])).length) Slot.unset).toArray = ls at hl ⊢
  have hl : lv_has ls 1 [(0, .ref h0)] := hl
  refine lv_aload_n hx hb d_Co_init_0 rfl (lv_at hl 0 rfl) ?_
  refine W.objInit hx hb hown (hts _ m_255) (hts _ m_34) (hts _ m_35) rfl (by rw [hml]; exact hl.1) rfl d_Co_init_1 (Nat.le_of_ble_eq_true rfl) (Nat.le_of_ble_eq_true rfl) ?_
  refine W.eq (g2 := F0 m 4 ls []) rfl ?_
  refine lv_aload_n hx hb d_Co_init_4 rfl (lv_at hl 0 rfl) ?_
  refine lv_sipush (v := 2000) hx hb d_Co_init_5 (by decide) ?_
  refine xx_newa (a0 := (2000, .inl (fun _ => 0))) (ty := .int) (cA := cI) hx hb rfl hK (hts _ m_82) 1 rfl hP hD hS hA (fun _ => rfl) (by decide) (by decide) (by decide) (Nat.le_of_ble_eq_true rfl) (Nat.le_of_ble_eq_true rfl) d_Co_init_8 (fun q_1 H hP hD hS => ?_)
  refine W.widen (k := 1) (n := 2000) (Nat.le_of_ble_eq_true rfl) (Nat.le_of_ble_eq_true rfl) ?_
  have hP : va_P G classes [(h0, .inr (9, [.int 0, .null, .null, .null, .null, .null, .null, .null, .int 0, .null, .null])), (q_1, .inl (cI, 2000, .inl (fun _ => 0)))] H := hP
  have hD : va_D A [(h0, .inr (9, [.int 0, .null, .null, .null, .null, .null, .null, .null, .int 0, .null, .null])), (q_1, .inl (cI, 2000, .inl (fun _ => 0)))] := hD
  refine va_putF (D := G) (ci := 9) (v := .ref q_1) (ty := .array .int) (C := R_Co) (T := F_Co) (N := 11) hx hb hts i_Co t_Co t_Co_ok n_Co hown hK hP hD hS 0 rfl rfl 1 (by decide) (hts _ m_259) (fun _ h9 => h9) rfl hin rfl (by decide +kernel) rfl rfl (Nat.le_of_ble_eq_true rfl) d_Co_init_10 (fun H locs hP hD hS => ?_)
  have hP : va_P G classes [(h0, .inr (9, [.int 0, .ref q_1, .null, .null, .null, .null, .null, .null, .int 0, .null, .null])), (q_1, .inl (cI, 2000, .inl (fun _ => 0)))] H := hP
  have hD : va_D A [(h0, .inr (9, [.int 0, .ref q_1, .null, .null, .null, .null, .null, .null, .int 0, .null, .null])), (q_1, .inl (cI, 2000, .inl (fun _ => 0)))] := hD
  refine lv_aload_n hx hb d_Co_init_13 rfl (lv_at hl 0 rfl) ?_
  refine lv_sipush (v := 2000) hx hb d_Co_init_14 (by decide) ?_
  refine xx_newa (a0 := (2000, .inr (.inl (fun _ => 0)))) (ty := .long) (cA := cJ) hx hb rfl hK (hts _ m_62) 2 rfl hP hD hS hA (fun _ => rfl) (by decide) (by decide) (by decide) (Nat.le_of_ble_eq_true rfl) (Nat.le_of_ble_eq_true rfl) d_Co_init_17 (fun q_2 H hP hD hS => ?_)
  refine W.widen (k := 2) (n := 4000) (Nat.le_of_ble_eq_true rfl) (Nat.le_of_ble_eq_true rfl) ?_
  have hP : va_P G classes [(h0, .inr (9, [.int 0, .ref q_1, .null, .null, .null, .null, .null, .null, .int 0, .null, .null])), (q_1, .inl (cI, 2000, .inl (fun _ => 0))), (q_2, .inl (cJ, 2000, .inr (.inl (fun _ => 0))))] H := hP
  have hD : va_D A [(h0, .inr (9, [.int 0, .ref q_1, .null, .null, .null, .null, .null, .null, .int 0, .null, .null])), (q_1, .inl (cI, 2000, .inl (fun _ => 0))), (q_2, .inl (cJ, 2000, .inr (.inl (fun _ => 0))))] := hD
  refine va_putF (D := G) (ci := 9) (v := .ref q_2) (ty := .array .long) (C := R_Co) (T := F_Co) (N := 11) hx hb hts i_Co t_Co t_Co_ok n_Co hown hK hP hD hS 0 rfl rfl 2 (by decide) (hts _ m_263) (fun _ h9 => h9) rfl hin rfl (by decide +kernel) rfl rfl (Nat.le_of_ble_eq_true rfl) d_Co_init_19 (fun H locs hP hD hS => ?_)
  have hP : va_P G classes [(h0, .inr (9, [.int 0, .ref q_1, .ref q_2, .null, .null, .null, .null, .null, .int 0, .null, .null])), (q_1, .inl (cI, 2000, .inl (fun _ => 0))), (q_2, .inl (cJ, 2000, .inr (.inl (fun _ => 0))))] H := hP
  have hD : va_D A [(h0, .inr (9, [.int 0, .ref q_1, .ref q_2, .null, .null, .null, .null, .null, .int 0, .null, .null])), (q_1, .inl (cI, 2000, .inl (fun _ => 0))), (q_2, .inl (cJ, 2000, .inr (.inl (fun _ => 0))))] := hD
  refine lv_aload_n hx hb d_Co_init_22 rfl (lv_at hl 0 rfl) ?_
  refine lv_sipush (v := 2000) hx hb d_Co_init_23 (by decide) ?_
  refine xx_newa (a0 := (2000, .inl (fun _ => 0))) (ty := .int) (cA := cI) hx hb rfl hK (hts _ m_82) 1 rfl hP hD hS hA (fun _ => rfl) (by decide) (by decide) (by decide) (Nat.le_of_ble_eq_true rfl) (Nat.le_of_ble_eq_true rfl) d_Co_init_26 (fun q_3 H hP hD hS => ?_)
  refine W.widen (k := 3) (n := 6000) (Nat.le_of_ble_eq_true rfl) (Nat.le_of_ble_eq_true rfl) ?_
  have hP : va_P G classes [(h0, .inr (9, [.int 0, .ref q_1, .ref q_2, .null, .null, .null, .null, .null, .int 0, .null, .null])), (q_1, .inl (cI, 2000, .inl (fun _ => 0))), (q_2, .inl (cJ, 2000, .inr (.inl (fun _ => 0)))), (q_3, .inl (cI, 2000, .inl (fun _ => 0)))] H := hP
  have hD : va_D A [(h0, .inr (9, [.int 0, .ref q_1, .ref q_2, .null, .null, .null, .null, .null, .int 0, .null, .null])), (q_1, .inl (cI, 2000, .inl (fun _ => 0))), (q_2, .inl (cJ, 2000, .inr (.inl (fun _ => 0)))), (q_3, .inl (cI, 2000, .inl (fun _ => 0)))] := hD
  refine va_putF (D := G) (ci := 9) (v := .ref q_3) (ty := .array .int) (C := R_Co) (T := F_Co) (N := 11) hx hb hts i_Co t_Co t_Co_ok n_Co hown hK hP hD hS 0 rfl rfl 3 (by decide) (hts _ m_267) (fun _ h9 => h9) rfl hin rfl (by decide +kernel) rfl rfl (Nat.le_of_ble_eq_true rfl) d_Co_init_28 (fun H locs hP hD hS => ?_)
  have hP : va_P G classes [(h0, .inr (9, [.int 0, .ref q_1, .ref q_2, .ref q_3, .null, .null, .null, .null, .int 0, .null, .null])), (q_1, .inl (cI, 2000, .inl (fun _ => 0))), (q_2, .inl (cJ, 2000, .inr (.inl (fun _ => 0)))), (q_3, .inl (cI, 2000, .inl (fun _ => 0)))] H := hP
  have hD : va_D A [(h0, .inr (9, [.int 0, .ref q_1, .ref q_2, .ref q_3, .null, .null, .null, .null, .int 0, .null, .null])), (q_1, .inl (cI, 2000, .inl (fun _ => 0))), (q_2, .inl (cJ, 2000, .inr (.inl (fun _ => 0)))), (q_3, .inl (cI, 2000, .inl (fun _ => 0)))] := hD
  refine lv_aload_n hx hb d_Co_init_31 rfl (lv_at hl 0 rfl) ?_
  refine lv_sipush (v := 2000) hx hb d_Co_init_32 (by decide) ?_
  refine xx_newa (a0 := (2000, .inl (fun _ => 0))) (ty := .int) (cA := cI) hx hb rfl hK (hts _ m_82) 1 rfl hP hD hS hA (fun _ => rfl) (by decide) (by decide) (by decide) (Nat.le_of_ble_eq_true rfl) (Nat.le_of_ble_eq_true rfl) d_Co_init_35 (fun q_4 H hP hD hS => ?_)
  refine W.widen (k := 4) (n := 8000) (Nat.le_of_ble_eq_true rfl) (Nat.le_of_ble_eq_true rfl) ?_
  have hP : va_P G classes [(h0, .inr (9, [.int 0, .ref q_1, .ref q_2, .ref q_3, .null, .null, .null, .null, .int 0, .null, .null])), (q_1, .inl (cI, 2000, .inl (fun _ => 0))), (q_2, .inl (cJ, 2000, .inr (.inl (fun _ => 0)))), (q_3, .inl (cI, 2000, .inl (fun _ => 0))), (q_4, .inl (cI, 2000, .inl (fun _ => 0)))] H := hP
  have hD : va_D A [(h0, .inr (9, [.int 0, .ref q_1, .ref q_2, .ref q_3, .null, .null, .null, .null, .int 0, .null, .null])), (q_1, .inl (cI, 2000, .inl (fun _ => 0))), (q_2, .inl (cJ, 2000, .inr (.inl (fun _ => 0)))), (q_3, .inl (cI, 2000, .inl (fun _ => 0))), (q_4, .inl (cI, 2000, .inl (fun _ => 0)))] := hD
  refine va_putF (D := G) (ci := 9) (v := .ref q_4) (ty := .array .int) (C := R_Co) (T := F_Co) (N := 11) hx hb hts i_Co t_Co t_Co_ok n_Co hown hK hP hD hS 0 rfl rfl 4 (by decide) (hts _ m_271) (fun _ h9 => h9) rfl hin rfl (by decide +kernel) rfl rfl (Nat.le_of_ble_eq_true rfl) d_Co_init_37 (fun H locs hP hD hS => ?_)
  have hP : va_P G classes [(h0, .inr (9, [.int 0, .ref q_1, .ref q_2, .ref q_3, .ref q_4, .null, .null, .null, .int 0, .null, .null])), (q_1, .inl (cI, 2000, .inl (fun _ => 0))), (q_2, .inl (cJ, 2000, .inr (.inl (fun _ => 0)))), (q_3, .inl (cI, 2000, .inl (fun _ => 0))), (q_4, .inl (cI, 2000, .inl (fun _ => 0)))] H := hP
  have hD : va_D A [(h0, .inr (9, [.int 0, .ref q_1, .ref q_2, .ref q_3, .ref q_4, .null, .null, .null, .int 0, .null, .null])), (q_1, .inl (cI, 2000, .inl (fun _ => 0))), (q_2, .inl (cJ, 2000, .inr (.inl (fun _ => 0)))), (q_3, .inl (cI, 2000, .inl (fun _ => 0))), (q_4, .inl (cI, 2000, .inl (fun _ => 0)))] := hD
  refine lv_aload_n hx hb d_Co_init_40 rfl (lv_at hl 0 rfl) ?_
  refine lv_sipush (v := 2000) hx hb d_Co_init_41 (by decide) ?_
  refine xx_newa (a0 := (2000, .inl (fun _ => 0))) (ty := .int) (cA := cI) hx hb rfl hK (hts _ m_82) 1 rfl hP hD hS hA (fun _ => rfl) (by decide) (by decide) (by decide) (Nat.le_of_ble_eq_true rfl) (Nat.le_of_ble_eq_true rfl) d_Co_init_44 (fun q_5 H hP hD hS => ?_)
  refine W.widen (k := 5) (n := 10000) (Nat.le_of_ble_eq_true rfl) (Nat.le_of_ble_eq_true rfl) ?_
  have hP : va_P G classes [(h0, .inr (9, [.int 0, .ref q_1, .ref q_2, .ref q_3, .ref q_4, .null, .null, .null, .int 0, .null, .null])), (q_1, .inl (cI, 2000, .inl (fun _ => 0))), (q_2, .inl (cJ, 2000, .inr (.inl (fun _ => 0)))), (q_3, .inl (cI, 2000, .inl (fun _ => 0))), (q_4, .inl (cI, 2000, .inl (fun _ => 0))), (q_5, .inl (cI, 2000, .inl (fun _ => 0)))] H := hP
  have hD : va_D A [(h0, .inr (9, [.int 0, .ref q_1, .ref q_2, .ref q_3, .ref q_4, .null, .null, .null, .int 0, .null, .null])), (q_1, .inl (cI, 2000, .inl (fun _ => 0))), (q_2, .inl (cJ, 2000, .inr (.inl (fun _ => 0)))), (q_3, .inl (cI, 2000, .inl (fun _ => 0))), (q_4, .inl (cI, 2000, .inl (fun _ => 0))), (q_5, .inl (cI, 2000, .inl (fun _ => 0)))] := hD
  refine va_putF (D := G) (ci := 9) (v := .ref q_5) (ty := .array .int) (C := R_Co) (T := F_Co) (N := 11) hx hb hts i_Co t_Co t_Co_ok n_Co hown hK hP hD hS 0 rfl rfl 5 (by decide) (hts _ m_274) (fun _ h9 => h9) rfl hin rfl (by decide +kernel) rfl rfl (Nat.le_of_ble_eq_true rfl) d_Co_init_46 (fun H locs hP hD hS => ?_)
  have hP : va_P G classes [(h0, .inr (9, [.int 0, .ref q_1, .ref q_2, .ref q_3, .ref q_4, .ref q_5, .null, .null, .int 0, .null, .null])), (q_1, .inl (cI, 2000, .inl (fun _ => 0))), (q_2, .inl (cJ, 2000, .inr (.inl (fun _ => 0)))), (q_3, .inl (cI, 2000, .inl (fun _ => 0))), (q_4, .inl (cI, 2000, .inl (fun _ => 0))), (q_5, .inl (cI, 2000, .inl (fun _ => 0)))] H := hP
  have hD : va_D A [(h0, .inr (9, [.int 0, .ref q_1, .ref q_2, .ref q_3, .ref q_4, .ref q_5, .null, .null, .int 0, .null, .null])), (q_1, .inl (cI, 2000, .inl (fun _ => 0))), (q_2, .inl (cJ, 2000, .inr (.inl (fun _ => 0)))), (q_3, .inl (cI, 2000, .inl (fun _ => 0))), (q_4, .inl (cI, 2000, .inl (fun _ => 0))), (q_5, .inl (cI, 2000, .inl (fun _ => 0)))] := hD
  refine lv_aload_n hx hb d_Co_init_49 rfl (lv_at hl 0 rfl) ?_
  refine lv_sipush (v := 2000) hx hb d_Co_init_50 (by decide) ?_
  refine xx_newa (a0 := (2000, .inl (fun _ => 0))) (ty := .int) (cA := cI) hx hb rfl hK (hts _ m_82) 1 rfl hP hD hS hA (fun _ => rfl) (by decide) (by decide) (by decide) (Nat.le_of_ble_eq_true rfl) (Nat.le_of_ble_eq_true rfl) d_Co_init_53 (fun q_6 H hP hD hS => ?_)
  refine W.widen (k := 6) (n := 12000) (Nat.le_of_ble_eq_true rfl) (Nat.le_of_ble_eq_true rfl) ?_
  have hP : va_P G classes [(h0, .inr (9, [.int 0, .ref q_1, .ref q_2, .ref q_3, .ref q_4, .ref q_5, .null, .null, .int 0, .null, .null])), (q_1, .inl (cI, 2000, .inl (fun _ => 0))), (q_2, .inl (cJ, 2000, .inr (.inl (fun _ => 0)))), (q_3, .inl (cI, 2000, .inl (fun _ => 0))), (q_4, .inl (cI, 2000, .inl (fun _ => 0))), (q_5, .inl (cI, 2000, .inl (fun _ => 0))), (q_6, .inl (cI, 2000, .inl (fun _ => 0)))] H := hP
  have hD : va_D A [(h0, .inr (9, [.int 0, .ref q_1, .ref q_2, .ref q_3, .ref q_4, .ref q_5, .null, .null, .int 0, .null, .null])), (q_1, .inl (cI, 2000, .inl (fun _ => 0))), (q_2, .inl (cJ, 2000, .inr (.inl (fun _ => 0)))), (q_3, .inl (cI, 2000, .inl (fun _ => 0))), (q_4, .inl (cI, 2000, .inl (fun _ => 0))), (q_5, .inl (cI, 2000, .inl (fun _ => 0))), (q_6, .inl (cI, 2000, .inl (fun _ => 0)))] := hD
  refine va_putF (D := G) (ci := 9) (v := .ref q_6) (ty := .array .int) (C := R_Co) (T := F_Co) (N := 11) hx hb hts i_Co t_Co t_Co_ok n_Co hown hK hP hD hS 0 rfl rfl 6 (by decide) (hts _ m_278) (fun _ h9 => h9) rfl hin rfl (by decide +kernel) rfl rfl (Nat.le_of_ble_eq_true rfl) d_Co_init_55 (fun H locs hP hD hS => ?_)
  have hP : va_P G classes [(h0, .inr (9, [.int 0, .ref q_1, .ref q_2, .ref q_3, .ref q_4, .ref q_5, .ref q_6, .null, .int 0, .null, .null])), (q_1, .inl (cI, 2000, .inl (fun _ => 0))), (q_2, .inl (cJ, 2000, .inr (.inl (fun _ => 0)))), (q_3, .inl (cI, 2000, .inl (fun _ => 0))), (q_4, .inl (cI, 2000, .inl (fun _ => 0))), (q_5, .inl (cI, 2000, .inl (fun _ => 0))), (q_6, .inl (cI, 2000, .inl (fun _ => 0)))] H := hP
  have hD : va_D A [(h0, .inr (9, [.int 0, .ref q_1, .ref q_2, .ref q_3, .ref q_4, .ref q_5, .ref q_6, .null, .int 0, .null, .null])), (q_1, .inl (cI, 2000, .inl (fun _ => 0))), (q_2, .inl (cJ, 2000, .inr (.inl (fun _ => 0)))), (q_3, .inl (cI, 2000, .inl (fun _ => 0))), (q_4, .inl (cI, 2000, .inl (fun _ => 0))), (q_5, .inl (cI, 2000, .inl (fun _ => 0))), (q_6, .inl (cI, 2000, .inl (fun _ => 0)))] := hD
  refine lv_aload_n hx hb d_Co_init_58 rfl (lv_at hl 0 rfl) ?_
  refine lv_sipush (v := 2000) hx hb d_Co_init_59 (by decide) ?_
  refine xx_newa (a0 := (2000, .inl (fun _ => 0))) (ty := .int) (cA := cI) hx hb rfl hK (hts _ m_82) 1 rfl hP hD hS hA (fun _ => rfl) (by decide) (by decide) (by decide) (Nat.le_of_ble_eq_true rfl) (Nat.le_of_ble_eq_true rfl) d_Co_init_62 (fun q_7 H hP hD hS => ?_)
  refine W.widen (k := 7) (n := 14000) (Nat.le_of_ble_eq_true rfl) (Nat.le_of_ble_eq_true rfl) ?_
  have hP : va_P G classes [(h0, .inr (9, [.int 0, .ref q_1, .ref q_2, .ref q_3, .ref q_4, .ref q_5, .ref q_6, .null, .int 0, .null, .null])), (q_1, .inl (cI, 2000, .inl (fun _ => 0))), (q_2, .inl (cJ, 2000, .inr (.inl (fun _ => 0)))), (q_3, .inl (cI, 2000, .inl (fun _ => 0))), (q_4, .inl (cI, 2000, .inl (fun _ => 0))), (q_5, .inl (cI, 2000, .inl (fun _ => 0))), (q_6, .inl (cI, 2000, .inl (fun _ => 0))), (q_7, .inl (cI, 2000, .inl (fun _ => 0)))] H := hP
  have hD : va_D A [(h0, .inr (9, [.int 0, .ref q_1, .ref q_2, .ref q_3, .ref q_4, .ref q_5, .ref q_6, .null, .int 0, .null, .null])), (q_1, .inl (cI, 2000, .inl (fun _ => 0))), (q_2, .inl (cJ, 2000, .inr (.inl (fun _ => 0)))), (q_3, .inl (cI, 2000, .inl (fun _ => 0))), (q_4, .inl (cI, 2000, .inl (fun _ => 0))), (q_5, .inl (cI, 2000, .inl (fun _ => 0))), (q_6, .inl (cI, 2000, .inl (fun _ => 0))), (q_7, .inl (cI, 2000, .inl (fun _ => 0)))] := hD
  refine va_putF (D := G) (ci := 9) (v := .ref q_7) (ty := .array .int) (C := R_Co) (T := F_Co) (N := 11) hx hb hts i_Co t_Co t_Co_ok n_Co hown hK hP hD hS 0 rfl rfl 7 (by decide) (hts _ m_281) (fun _ h9 => h9) rfl hin rfl (by decide +kernel) rfl rfl (Nat.le_of_ble_eq_true rfl) d_Co_init_64 (fun H locs hP hD hS => ?_)
  have hP : va_P G classes [(h0, .inr (9, [.int 0, .ref q_1, .ref q_2, .ref q_3, .ref q_4, .ref q_5, .ref q_6, .ref q_7, .int 0, .null, .null])), (q_1, .inl (cI, 2000, .inl (fun _ => 0))), (q_2, .inl (cJ, 2000, .inr (.inl (fun _ => 0)))), (q_3, .inl (cI, 2000, .inl (fun _ => 0))), (q_4, .inl (cI, 2000, .inl (fun _ => 0))), (q_5, .inl (cI, 2000, .inl (fun _ => 0))), (q_6, .inl (cI, 2000, .inl (fun _ => 0))), (q_7, .inl (cI, 2000, .inl (fun _ => 0)))] H := hP
  have hD : va_D A [(h0, .inr (9, [.int 0, .ref q_1, .ref q_2, .ref q_3, .ref q_4, .ref q_5, .ref q_6, .ref q_7, .int 0, .null, .null])), (q_1, .inl (cI, 2000, .inl (fun _ => 0))), (q_2, .inl (cJ, 2000, .inr (.inl (fun _ => 0)))), (q_3, .inl (cI, 2000, .inl (fun _ => 0))), (q_4, .inl (cI, 2000, .inl (fun _ => 0))), (q_5, .inl (cI, 2000, .inl (fun _ => 0))), (q_6, .inl (cI, 2000, .inl (fun _ => 0))), (q_7, .inl (cI, 2000, .inl (fun _ => 0)))] := hD
  refine lv_aload_n hx hb d_Co_init_67 rfl (lv_at hl 0 rfl) ?_
  refine lv_sipush (v := 2000) hx hb d_Co_init_68 (by decide) ?_
  refine xx_newa (a0 := (2000, .inl (fun _ => 0))) (ty := .int) (cA := cI) hx hb rfl hK (hts _ m_82) 1 rfl hP hD hS hA (fun _ => rfl) (by decide) (by decide) (by decide) (Nat.le_of_ble_eq_true rfl) (Nat.le_of_ble_eq_true rfl) d_Co_init_71 (fun q_8 H hP hD hS => ?_)
  refine W.widen (k := 8) (n := 16000) (Nat.le_of_ble_eq_true rfl) (Nat.le_of_ble_eq_true rfl) ?_
  have hP : va_P G classes [(h0, .inr (9, [.int 0, .ref q_1, .ref q_2, .ref q_3, .ref q_4, .ref q_5, .ref q_6, .ref q_7, .int 0, .null, .null])), (q_1, .inl (cI, 2000, .inl (fun _ => 0))), (q_2, .inl (cJ, 2000, .inr (.inl (fun _ => 0)))), (q_3, .inl (cI, 2000, .inl (fun _ => 0))), (q_4, .inl (cI, 2000, .inl (fun _ => 0))), (q_5, .inl (cI, 2000, .inl (fun _ => 0))), (q_6, .inl (cI, 2000, .inl (fun _ => 0))), (q_7, .inl (cI, 2000, .inl (fun _ => 0))), (q_8, .inl (cI, 2000, .inl (fun _ => 0)))] H := hP
  have hD : va_D A [(h0, .inr (9, [.int 0, .ref q_1, .ref q_2, .ref q_3, .ref q_4, .ref q_5, .ref q_6, .ref q_7, .int 0, .null, .null])), (q_1, .inl (cI, 2000, .inl (fun _ => 0))), (q_2, .inl (cJ, 2000, .inr (.inl (fun _ => 0)))), (q_3, .inl (cI, 2000, .inl (fun _ => 0))), (q_4, .inl (cI, 2000, .inl (fun _ => 0))), (q_5, .inl (cI, 2000, .inl (fun _ => 0))), (q_6, .inl (cI, 2000, .inl (fun _ => 0))), (q_7, .inl (cI, 2000, .inl (fun _ => 0))), (q_8, .inl (cI, 2000, .inl (fun _ => 0)))] := hD
  refine va_putF (D := G) (ci := 9) (v := .ref q_8) (ty := .array .int) (C := R_Co) (T := F_Co) (N := 11) hx hb hts i_Co t_Co t_Co_ok n_Co hown hK hP hD hS 0 rfl rfl 9 (by decide) (hts _ m_286) (fun _ h9 => h9) rfl hin rfl (by decide +kernel) rfl rfl (Nat.le_of_ble_eq_true rfl) d_Co_init_73 (fun H locs hP hD hS => ?_)
  have hP : va_P G classes [(h0, .inr (9, [.int 0, .ref q_1, .ref q_2, .ref q_3, .ref q_4, .ref q_5, .ref q_6, .ref q_7, .int 0, .ref q_8, .null])), (q_1, .inl (cI, 2000, .inl (fun _ => 0))), (q_2, .inl (cJ, 2000, .inr (.inl (fun _ => 0)))), (q_3, .inl (cI, 2000, .inl (fun _ => 0))), (q_4, .inl (cI, 2000, .inl (fun _ => 0))), (q_5, .inl (cI, 2000, .inl (fun _ => 0))), (q_6, .inl (cI, 2000, .inl (fun _ => 0))), (q_7, .inl (cI, 2000, .inl (fun _ => 0))), (q_8, .inl (cI, 2000, .inl (fun _ => 0)))] H := hP
  have hD : va_D A [(h0, .inr (9, [.int 0, .ref q_1, .ref q_2, .ref q_3, .ref q_4, .ref q_5, .ref q_6, .ref q_7, .int 0, .ref q_8, .null])), (q_1, .inl (cI, 2000, .inl (fun _ => 0))), (q_2, .inl (cJ, 2000, .inr (.inl (fun _ => 0)))), (q_3, .inl (cI, 2000, .inl (fun _ => 0))), (q_4, .inl (cI, 2000, .inl (fun _ => 0))), (q_5, .inl (cI, 2000, .inl (fun _ => 0))), (q_6, .inl (cI, 2000, .inl (fun _ => 0))), (q_7, .inl (cI, 2000, .inl (fun _ => 0))), (q_8, .inl (cI, 2000, .inl (fun _ => 0)))] := hD
  refine lv_aload_n hx hb d_Co_init_76 rfl (lv_at hl 0 rfl) ?_
  refine lv_sipush (v := 2000) hx hb d_Co_init_77 (by decide) ?_
  refine xx_newa (a0 := (2000, .inl (fun _ => 0))) (ty := .int) (cA := cI) hx hb rfl hK (hts _ m_82) 1 rfl hP hD hS hA (fun _ => rfl) (by decide) (by decide) (by decide) (Nat.le_of_ble_eq_true rfl) (Nat.le_of_ble_eq_true rfl) d_Co_init_80 (fun q_9 H hP hD hS => ?_)
  refine W.widen (k := 9) (n := 18000) (Nat.le_of_ble_eq_true rfl) (Nat.le_of_ble_eq_true rfl) ?_
  have hP : va_P G classes [(h0, .inr (9, [.int 0, .ref q_1, .ref q_2, .ref q_3, .ref q_4, .ref q_5, .ref q_6, .ref q_7, .int 0, .ref q_8, .null])), (q_1, .inl (cI, 2000, .inl (fun _ => 0))), (q_2, .inl (cJ, 2000, .inr (.inl (fun _ => 0)))), (q_3, .inl (cI, 2000, .inl (fun _ => 0))), (q_4, .inl (cI, 2000, .inl (fun _ => 0))), (q_5, .inl (cI, 2000, .inl (fun _ => 0))), (q_6, .inl (cI, 2000, .inl (fun _ => 0))), (q_7, .inl (cI, 2000, .inl (fun _ => 0))), (q_8, .inl (cI, 2000, .inl (fun _ => 0))), (q_9, .inl (cI, 2000, .inl (fun _ => 0)))] H := hP
  have hD : va_D A [(h0, .inr (9, [.int 0, .ref q_1, .ref q_2, .ref q_3, .ref q_4, .ref q_5, .ref q_6, .ref q_7, .int 0, .ref q_8, .null])), (q_1, .inl (cI, 2000, .inl (fun _ => 0))), (q_2, .inl (cJ, 2000, .inr (.inl (fun _ => 0)))), (q_3, .inl (cI, 2000, .inl (fun _ => 0))), (q_4, .inl (cI, 2000, .inl (fun _ => 0))), (q_5, .inl (cI, 2000, .inl (fun _ => 0))), (q_6, .inl (cI, 2000, .inl (fun _ => 0))), (q_7, .inl (cI, 2000, .inl (fun _ => 0))), (q_8, .inl (cI, 2000, .inl (fun _ => 0))), (q_9, .inl (cI, 2000, .inl (fun _ => 0)))] := hD
  refine va_putF (D := G) (ci := 9) (v := .ref q_9) (ty := .array .int) (C := R_Co) (T := F_Co) (N := 11) hx hb hts i_Co t_Co t_Co_ok n_Co hown hK hP hD hS 0 rfl rfl 10 (by decide) (hts _ m_288) (fun _ h9 => h9) rfl hin rfl (by decide +kernel) rfl rfl (Nat.le_of_ble_eq_true rfl) d_Co_init_82 (fun H locs hP hD hS => ?_)
  have hP : va_P G classes [(h0, .inr (9, [.int 0, .ref q_1, .ref q_2, .ref q_3, .ref q_4, .ref q_5, .ref q_6, .ref q_7, .int 0, .ref q_8, .ref q_9])), (q_1, .inl (cI, 2000, .inl (fun _ => 0))), (q_2, .inl (cJ, 2000, .inr (.inl (fun _ => 0)))), (q_3, .inl (cI, 2000, .inl (fun _ => 0))), (q_4, .inl (cI, 2000, .inl (fun _ => 0))), (q_5, .inl (cI, 2000, .inl (fun _ => 0))), (q_6, .inl (cI, 2000, .inl (fun _ => 0))), (q_7, .inl (cI, 2000, .inl (fun _ => 0))), (q_8, .inl (cI, 2000, .inl (fun _ => 0))), (q_9, .inl (cI, 2000, .inl (fun _ => 0)))] H := hP
  have hD : va_D A [(h0, .inr (9, [.int 0, .ref q_1, .ref q_2, .ref q_3, .ref q_4, .ref q_5, .ref q_6, .ref q_7, .int 0, .ref q_8, .ref q_9])), (q_1, .inl (cI, 2000, .inl (fun _ => 0))), (q_2, .inl (cJ, 2000, .inr (.inl (fun _ => 0)))), (q_3, .inl (cI, 2000, .inl (fun _ => 0))), (q_4, .inl (cI, 2000, .inl (fun _ => 0))), (q_5, .inl (cI, 2000, .inl (fun _ => 0))), (q_6, .inl (cI, 2000, .inl (fun _ => 0))), (q_7, .inl (cI, 2000, .inl (fun _ => 0))), (q_8, .inl (cI, 2000, .inl (fun _ => 0))), (q_9, .inl (cI, 2000, .inl (fun _ => 0)))] := hD
  exact ex_W (fun _ h => ex_mq h) (W.vret hx hb hr (fun t ht hW => ⟨⟨_, ⟨q_1, q_2, q_3, q_4, q_5, q_6, q_7, q_8, q_9, rfl, rfl⟩, by rw [ht]; exact hP, hD⟩, hS.F ht⟩) hS.2.2 d_Co_init_85)
