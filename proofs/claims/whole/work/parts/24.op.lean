def fWidth (op : Int32) : Int32 := if op = 41 then 8 else if op = 55 then 8 else if op = 40 then 4 else if op = 54 then 4 else 1
def fLoad (op : Int32) : Int32 := if op < 40 then 0 else if 45 < op then 0 else 1
/-- an instruction among the table's runs from place k on -/
def fKnown (op : Int32) : Nat → Nat → Int32
  | 0, _ => 0
  | n + 1, k => if op < xKnown k then fKnown op n (k + 2) else if xKnown (k + 1) < op then fKnown op n (k + 2) else 1
abbrev b_Op_width : ByteArray := prog_8_method_3_code
def y_Op_width : MethodName := ⟨R_Op, "width", "(I)I"⟩
abbrev b_Op_isLoad : ByteArray := prog_8_method_4_code
def y_Op_isLoad : MethodName := ⟨R_Op, "isLoad", "(I)Z"⟩
theorem d_Op_width_0 : decode b_Op_width 0 = .ok (.iload_n 0, 1) := by decide +kernel
theorem d_Op_width_1 : decode b_Op_width 1 = .ok (.bipush 41, 2) := by decide +kernel
theorem d_Op_width_3 : decode b_Op_width 3 = .ok (.if_icmp .eq 9, 3) := by decide +kernel
theorem d_Op_width_6 : decode b_Op_width 6 = .ok (.iload_n 0, 1) := by decide +kernel
theorem d_Op_width_7 : decode b_Op_width 7 = .ok (.bipush 55, 2) := by decide +kernel
theorem d_Op_width_9 : decode b_Op_width 9 = .ok (.if_icmp .ne 6, 3) := by decide +kernel
theorem d_Op_width_12 : decode b_Op_width 12 = .ok (.bipush 8, 2) := by decide +kernel
theorem d_Op_width_14 : decode b_Op_width 14 = .ok (.ireturn, 1) := by decide +kernel
theorem d_Op_width_15 : decode b_Op_width 15 = .ok (.iload_n 0, 1) := by decide +kernel
theorem d_Op_width_16 : decode b_Op_width 16 = .ok (.bipush 40, 2) := by decide +kernel
theorem d_Op_width_18 : decode b_Op_width 18 = .ok (.if_icmp .eq 9, 3) := by decide +kernel
theorem d_Op_width_21 : decode b_Op_width 21 = .ok (.iload_n 0, 1) := by decide +kernel
theorem d_Op_width_22 : decode b_Op_width 22 = .ok (.bipush 54, 2) := by decide +kernel
theorem d_Op_width_24 : decode b_Op_width 24 = .ok (.if_icmp .ne 7, 3) := by decide +kernel
theorem d_Op_width_27 : decode b_Op_width 27 = .ok (.iconst 4, 1) := by decide +kernel
theorem d_Op_width_28 : decode b_Op_width 28 = .ok (.goto 4, 3) := by decide +kernel
theorem d_Op_width_31 : decode b_Op_width 31 = .ok (.iconst 1, 1) := by decide +kernel
theorem d_Op_width_32 : decode b_Op_width 32 = .ok (.ireturn, 1) := by decide +kernel
theorem d_Op_isLoad_0 : decode b_Op_isLoad 0 = .ok (.iload_n 0, 1) := by decide +kernel
theorem d_Op_isLoad_1 : decode b_Op_isLoad 1 = .ok (.bipush 40, 2) := by decide +kernel
theorem d_Op_isLoad_3 : decode b_Op_isLoad 3 = .ok (.if_icmp .lt 13, 3) := by decide +kernel
theorem d_Op_isLoad_6 : decode b_Op_isLoad 6 = .ok (.iload_n 0, 1) := by decide +kernel
theorem d_Op_isLoad_7 : decode b_Op_isLoad 7 = .ok (.bipush 45, 2) := by decide +kernel
theorem d_Op_isLoad_9 : decode b_Op_isLoad 9 = .ok (.if_icmp .gt 7, 3) := by decide +kernel
theorem d_Op_isLoad_12 : decode b_Op_isLoad 12 = .ok (.iconst 1, 1) := by decide +kernel
theorem d_Op_isLoad_13 : decode b_Op_isLoad 13 = .ok (.goto 4, 3) := by decide +kernel
theorem d_Op_isLoad_16 : decode b_Op_isLoad 16 = .ok (.iconst 0, 1) := by decide +kernel
theorem d_Op_isLoad_17 : decode b_Op_isLoad 17 = .ok (.ireturn, 1) := by decide +kernel
set_option maxHeartbeats 8000000 in
set_option maxRecDepth 100000 in
theorem c_Op_width (l : Launch) (htr : l.stackTraces = false) (G : va_G) (cB cI cJ cZ : ClassId) (op : Int32) (sz : Nat) : MetX l y_Op_width (wx y_Op_width b_Op_width 1 (some .int)) { frames := 0, cells := 0, slots := 0, locals := 0 } (XP G classes (xtys cB cI cJ cZ) xE [.int op] [] sz) (XQ G classes (va_A [] sz) (fun o w1 => o = .returned (some (.int (fWidth op))) ∧ w1 = [])) 0 0 (va_A [] sz) := by
  refine ex_ofW (cc := b_Op_width) (maxL := 1) (ret := (some .int)) (by decide) rfl ?_
  intro p e s m args below meth c s₁ B hml hno hv
  obtain ⟨rfl, hsz, hP, hK, hD0, hE⟩ := hv
  have hx := B.exec
  have hb := B.bytes
  have hr := B.returns
  have hts : ∀ w ∈ lw_good, w.before _ s = true := fun w h => atoms_spec (ws := wx y_Op_width b_Op_width 1 (some .int)) B.pre w (List.mem_cons_of_mem _ h)
  have hown : s.vm.findClass R_Op = some m.cls := findClass_of_methodNamed B.named
  have hlocks := B.notSynchronized
  have htr9 : e.platform.stackTraces = false := by rw [B.admits.platform]; exact htr
  subst hsz
  have hNS := xx_nostat hP
  have hD := hD0.self (sz := s.heap.size)
  generalize hAe : va_A [] s.heap.size = A at hD hE hNS ⊢
  have hA : ∀ q : Nat, s.heap.size ≤ q → A q := fun q h => by rw [← hAe]; exact Or.inr h
  have hS : va_S A s.heap s.heap [] := va_S.rf
  have hl := lv_entry ([.int op]) (n := 1) (Nat.le_of_ble_eq_true rfl)
  rw [lg_entry_eq]
  generalize (lg_sl ([.int op]) ++ List.replicate (1 - (lg_sl ([.int op])).length) Slot.unset).toArray = ls at hl ⊢
  have hl : lv_has ls 1 [(0, .int op)] := hl
  refine lv_iload_n hx hb d_Op_width_0 rfl (lv_at hl 0 rfl) ?_
  refine lv_bipush (v := 41) hx hb d_Op_width_1 (by decide) ?_
  refine lv_icmp_eq (tgt := 12) hx hb d_Op_width_3 (by decide) (fun c_1 => ?_) (fun c_1 => ?_)
  · refine lv_bipush (v := 8) hx hb d_Op_width_12 (by decide) ?_
    exact ex_W (fun _ h => ex_mq h) (W.iret (v := 8) hx hb hr (fun t ht hW => ⟨⟨_, ⟨congrArg (fun z => Outcome.returned (some (Value.int z))) (by simp [fWidth, c_1]), rfl⟩, by rw [ht]; exact hP, hD⟩, hS.F ht⟩) hS.2.2 d_Op_width_14)
  · refine lv_iload_n hx hb d_Op_width_6 rfl (lv_at hl 0 rfl) ?_
    refine lv_bipush (v := 55) hx hb d_Op_width_7 (by decide) ?_
    refine lv_icmp_ne (tgt := 15) hx hb d_Op_width_9 (by decide) (fun c_2 => ?_) (fun c_2 => ?_)
    · refine lv_iload_n hx hb d_Op_width_15 rfl (lv_at hl 0 rfl) ?_
      refine lv_bipush (v := 40) hx hb d_Op_width_16 (by decide) ?_
      refine lv_icmp_eq (tgt := 27) hx hb d_Op_width_18 (by decide) (fun c_3 => ?_) (fun c_3 => ?_)
      · refine lv_iconst (v := 4) hx hb d_Op_width_27 (by decide) ?_
        refine lv_goto (tgt := 32) hx hb d_Op_width_28 (by decide) ?_
        exact ex_W (fun _ h => ex_mq h) (W.iret (v := 4) hx hb hr (fun t ht hW => ⟨⟨_, ⟨congrArg (fun z => Outcome.returned (some (Value.int z))) (by simp [fWidth, c_1, c_2, c_3]), rfl⟩, by rw [ht]; exact hP, hD⟩, hS.F ht⟩) hS.2.2 d_Op_width_32)
      · refine lv_iload_n hx hb d_Op_width_21 rfl (lv_at hl 0 rfl) ?_
        refine lv_bipush (v := 54) hx hb d_Op_width_22 (by decide) ?_
        refine lv_icmp_ne (tgt := 31) hx hb d_Op_width_24 (by decide) (fun c_4 => ?_) (fun c_4 => ?_)
        · refine lv_iconst (v := 1) hx hb d_Op_width_31 (by decide) ?_
          exact ex_W (fun _ h => ex_mq h) (W.iret (v := 1) hx hb hr (fun t ht hW => ⟨⟨_, ⟨congrArg (fun z => Outcome.returned (some (Value.int z))) (by simp [fWidth, c_1, c_2, c_3, c_4]), rfl⟩, by rw [ht]; exact hP, hD⟩, hS.F ht⟩) hS.2.2 d_Op_width_32)
        · refine lv_iconst (v := 4) hx hb d_Op_width_27 (by decide) ?_
          refine lv_goto (tgt := 32) hx hb d_Op_width_28 (by decide) ?_
          exact ex_W (fun _ h => ex_mq h) (W.iret (v := 4) hx hb hr (fun t ht hW => ⟨⟨_, ⟨congrArg (fun z => Outcome.returned (some (Value.int z))) (by simp [fWidth, c_1, c_2, c_3, c_4]), rfl⟩, by rw [ht]; exact hP, hD⟩, hS.F ht⟩) hS.2.2 d_Op_width_32)
    · refine lv_bipush (v := 8) hx hb d_Op_width_12 (by decide) ?_
      exact ex_W (fun _ h => ex_mq h) (W.iret (v := 8) hx hb hr (fun t ht hW => ⟨⟨_, ⟨congrArg (fun z => Outcome.returned (some (Value.int z))) (by simp [fWidth, c_1, c_2]), rfl⟩, by rw [ht]; exact hP, hD⟩, hS.F ht⟩) hS.2.2 d_Op_width_14)
set_option maxHeartbeats 8000000 in
set_option maxRecDepth 100000 in
theorem c_Op_isLoad (l : Launch) (htr : l.stackTraces = false) (G : va_G) (cB cI cJ cZ : ClassId) (op : Int32) (sz : Nat) : MetX l y_Op_isLoad (wx y_Op_isLoad b_Op_isLoad 1 (some .boolean)) { frames := 0, cells := 0, slots := 0, locals := 0 } (XP G classes (xtys cB cI cJ cZ) xE [.int op] [] sz) (XQ G classes (va_A [] sz) (fun o w1 => o = .returned (some (.int (fLoad op))) ∧ w1 = [])) 0 0 (va_A [] sz) := by
  refine ex_ofW (cc := b_Op_isLoad) (maxL := 1) (ret := (some .boolean)) (by decide) rfl ?_
  intro p e s m args below meth c s₁ B hml hno hv
  obtain ⟨rfl, hsz, hP, hK, hD0, hE⟩ := hv
  have hx := B.exec
  have hb := B.bytes
  have hr := B.returns
  have hts : ∀ w ∈ lw_good, w.before _ s = true := fun w h => atoms_spec (ws := wx y_Op_isLoad b_Op_isLoad 1 (some .boolean)) B.pre w (List.mem_cons_of_mem _ h)
  have hown : s.vm.findClass R_Op = some m.cls := findClass_of_methodNamed B.named
  have hlocks := B.notSynchronized
  have htr9 : e.platform.stackTraces = false := by rw [B.admits.platform]; exact htr
  subst hsz
  have hNS := xx_nostat hP
  have hD := hD0.self (sz := s.heap.size)
  generalize hAe : va_A [] s.heap.size = A at hD hE hNS ⊢
  have hA : ∀ q : Nat, s.heap.size ≤ q → A q := fun q h => by rw [← hAe]; exact Or.inr h
  have hS : va_S A s.heap s.heap [] := va_S.rf
  have hl := lv_entry ([.int op]) (n := 1) (Nat.le_of_ble_eq_true rfl)
  rw [lg_entry_eq]
  generalize (lg_sl ([.int op]) ++ List.replicate (1 - (lg_sl ([.int op])).length) Slot.unset).toArray = ls at hl ⊢
  have hl : lv_has ls 1 [(0, .int op)] := hl
  refine lv_iload_n hx hb d_Op_isLoad_0 rfl (lv_at hl 0 rfl) ?_
  refine lv_bipush (v := 40) hx hb d_Op_isLoad_1 (by decide) ?_
  refine lv_icmp_lt (tgt := 16) hx hb d_Op_isLoad_3 (by decide) (fun c_1 => ?_) (fun c_1 => ?_)
  · refine lv_iconst (v := 0) hx hb d_Op_isLoad_16 (by decide) ?_
    exact ex_W (fun _ h => ex_mq h) (W.zret (v := 0) hx hb hr rfl (fun t ht hW => ⟨⟨_, ⟨congrArg (fun z => Outcome.returned (some (Value.int z))) (by simp [fLoad, c_1]), rfl⟩, by rw [ht]; exact hP, hD⟩, hS.F ht⟩) hS.2.2 d_Op_isLoad_17)
  · refine lv_iload_n hx hb d_Op_isLoad_6 rfl (lv_at hl 0 rfl) ?_
    refine lv_bipush (v := 45) hx hb d_Op_isLoad_7 (by decide) ?_
    refine lv_icmp_gt (tgt := 16) hx hb d_Op_isLoad_9 (by decide) (fun c_2 => ?_) (fun c_2 => ?_)
    · refine lv_iconst (v := 0) hx hb d_Op_isLoad_16 (by decide) ?_
      exact ex_W (fun _ h => ex_mq h) (W.zret (v := 0) hx hb hr rfl (fun t ht hW => ⟨⟨_, ⟨congrArg (fun z => Outcome.returned (some (Value.int z))) (by simp [fLoad, c_1, c_2]), rfl⟩, by rw [ht]; exact hP, hD⟩, hS.F ht⟩) hS.2.2 d_Op_isLoad_17)
    · refine lv_iconst (v := 1) hx hb d_Op_isLoad_12 (by decide) ?_
      refine lv_goto (tgt := 17) hx hb d_Op_isLoad_13 (by decide) ?_
      exact ex_W (fun _ h => ex_mq h) (W.zret (v := 1) hx hb hr rfl (fun t ht hW => ⟨⟨_, ⟨congrArg (fun z => Outcome.returned (some (Value.int z))) (by simp [fLoad, c_1, c_2]), rfl⟩, by rw [ht]; exact hP, hD⟩, hS.F ht⟩) hS.2.2 d_Op_isLoad_17)
