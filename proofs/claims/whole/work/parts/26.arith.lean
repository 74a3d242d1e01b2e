theorem ar_cmp {a b : Int64} (h : a = b) : lg_cmp a b = 0 := by subst h; simp [lg_cmp]
def fBelow (a b : Int64) : Int32 := if 0 ≤ lg_cmp (a ^^^ (-9223372036854775808)) (b ^^^ (-9223372036854775808)) then 0 else 1
def fSh (b : Int64) (k : Int32) : Int64 := b ||| (b.toUInt64 >>> (k.toInt64.toUInt64 &&& Int64.toUInt64 63)).toInt64
def fFill (a : Int64) : Int64 := fSh (fSh (fSh (fSh (fSh (fSh a 1) 2) 4) 8) 16) 32
def fNear (a b : Int64) : Int64 := ((a.toUInt64 >>> ((1 : Int32).toInt64.toUInt64 &&& Int64.toUInt64 63)).toInt64 / b) <<< ((1 : Int32).toInt64 &&& 63)
/-- the quotient without signs, as the class computes it -/
def fQuot (a b : Int64) : Int64 := if ¬ lg_cmp b 0 = 0 then (if 0 ≤ lg_cmp b 0 then (if fBelow (a - fNear a b * b) b = 0 then fNear a b + 1 else fNear a b) else (if fBelow a b = 0 then 1 else 0)) else 0
abbrev b_Ar_isBelow : ByteArray := prog_2_method_2_code
def y_Ar_isBelow : MethodName := ⟨R_Ar, "isBelow", "(JJ)Z"⟩
abbrev b_Ar_filled : ByteArray := prog_2_method_7_code
def y_Ar_filled : MethodName := ⟨R_Ar, "filled", "(J)J"⟩
theorem d_Ar_isBelow_0 : decode b_Ar_isBelow 0 = .ok (.lload_n 0, 1) := by decide +kernel
theorem d_Ar_isBelow_1 : decode b_Ar_isBelow 1 = .ok (.ldc2_w 11, 3) := by decide +kernel
theorem d_Ar_isBelow_4 : decode b_Ar_isBelow 4 = .ok (.lxor, 1) := by decide +kernel
theorem d_Ar_isBelow_5 : decode b_Ar_isBelow 5 = .ok (.lload_n 2, 1) := by decide +kernel
theorem d_Ar_isBelow_6 : decode b_Ar_isBelow 6 = .ok (.ldc2_w 11, 3) := by decide +kernel
theorem d_Ar_isBelow_9 : decode b_Ar_isBelow 9 = .ok (.lxor, 1) := by decide +kernel
theorem d_Ar_isBelow_10 : decode b_Ar_isBelow 10 = .ok (.lcmp, 1) := by decide +kernel
theorem d_Ar_isBelow_11 : decode b_Ar_isBelow 11 = .ok (.ifCond .ge 7, 3) := by decide +kernel
theorem d_Ar_isBelow_14 : decode b_Ar_isBelow 14 = .ok (.iconst 1, 1) := by decide +kernel
theorem d_Ar_isBelow_15 : decode b_Ar_isBelow 15 = .ok (.goto 4, 3) := by decide +kernel
theorem d_Ar_isBelow_18 : decode b_Ar_isBelow 18 = .ok (.iconst 0, 1) := by decide +kernel
theorem d_Ar_isBelow_19 : decode b_Ar_isBelow 19 = .ok (.ireturn, 1) := by decide +kernel
theorem d_Ar_filled_0 : decode b_Ar_filled 0 = .ok (.lload_n 0, 1) := by decide +kernel
theorem d_Ar_filled_1 : decode b_Ar_filled 1 = .ok (.lstore_n 2, 1) := by decide +kernel
theorem d_Ar_filled_2 : decode b_Ar_filled 2 = .ok (.iconst 1, 1) := by decide +kernel
theorem d_Ar_filled_3 : decode b_Ar_filled 3 = .ok (.istore 4, 2) := by decide +kernel
theorem d_Ar_filled_5 : decode b_Ar_filled 5 = .ok (.iload 4, 2) := by decide +kernel
theorem d_Ar_filled_7 : decode b_Ar_filled 7 = .ok (.bipush 64, 2) := by decide +kernel
theorem d_Ar_filled_9 : decode b_Ar_filled 9 = .ok (.if_icmp .ge 19, 3) := by decide +kernel
theorem d_Ar_filled_12 : decode b_Ar_filled 12 = .ok (.lload_n 2, 1) := by decide +kernel
theorem d_Ar_filled_13 : decode b_Ar_filled 13 = .ok (.lload_n 2, 1) := by decide +kernel
theorem d_Ar_filled_14 : decode b_Ar_filled 14 = .ok (.iload 4, 2) := by decide +kernel
theorem d_Ar_filled_16 : decode b_Ar_filled 16 = .ok (.lushr, 1) := by decide +kernel
theorem d_Ar_filled_17 : decode b_Ar_filled 17 = .ok (.lor, 1) := by decide +kernel
theorem d_Ar_filled_18 : decode b_Ar_filled 18 = .ok (.lstore_n 2, 1) := by decide +kernel
theorem d_Ar_filled_19 : decode b_Ar_filled 19 = .ok (.iload 4, 2) := by decide +kernel
theorem d_Ar_filled_21 : decode b_Ar_filled 21 = .ok (.iconst 2, 1) := by decide +kernel
theorem d_Ar_filled_22 : decode b_Ar_filled 22 = .ok (.imul, 1) := by decide +kernel
theorem d_Ar_filled_23 : decode b_Ar_filled 23 = .ok (.istore 4, 2) := by decide +kernel
theorem d_Ar_filled_25 : decode b_Ar_filled 25 = .ok (.goto (-20), 3) := by decide +kernel
theorem d_Ar_filled_28 : decode b_Ar_filled 28 = .ok (.lload_n 2, 1) := by decide +kernel
theorem d_Ar_filled_29 : decode b_Ar_filled 29 = .ok (.lreturn, 1) := by decide +kernel
theorem m_1034 : Cond.constantLong R_Ar 11 (-9223372036854775808) ∈ lw_good := lw_in (List.mem_append_right _ (List.mem_of_getElem? (i := 1034) (by decide +kernel))) (by decide +kernel)
set_option maxHeartbeats 8000000 in
set_option maxRecDepth 100000 in
theorem c_Ar_isBelow (l : Launch) (htr : l.stackTraces = false) (G : va_G) (cB cI cJ cZ : ClassId) (a : Int64) (b : Int64) (sz : Nat) : MetX l y_Ar_isBelow (wx y_Ar_isBelow b_Ar_isBelow 4 (some .boolean)) { frames := 0, cells := 0, slots := 0, locals := 0 } (XP G classes (xtys cB cI cJ cZ) xE [.long a, .long b] [] sz) (XQ G classes (va_A [] sz) (fun o w1 => o = .returned (some (.int (fBelow a b))) ∧ w1 = [])) 0 0 (va_A [] sz) := by
  refine ex_ofW (cc := b_Ar_isBelow) (maxL := 4) (ret := (some .boolean)) (by decide) rfl ?_
  intro p e s m args below meth c s₁ B hml hno hv
  obtain ⟨rfl, hsz, hP, hK, hD0, hE⟩ := hv
  have hx := B.exec
  have hb := B.bytes
  have hr := B.returns
  have hts : ∀ w ∈ lw_good, w.before _ s = true := fun w h => atoms_spec (ws := wx y_Ar_isBelow b_Ar_isBelow 4 (some .boolean)) B.pre w (List.mem_cons_of_mem _ h)
  have hown : s.vm.findClass R_Ar = some m.cls := findClass_of_methodNamed B.named
  have hlocks := B.notSynchronized
  have htr9 : e.platform.stackTraces = false := by rw [B.admits.platform]; exact htr
  subst hsz
  have hNS := xx_nostat hP
  have hD := hD0.self (sz := s.heap.size)
  generalize hAe : va_A [] s.heap.size = A at hD hE hNS ⊢
  have hA : ∀ q : Nat, s.heap.size ≤ q → A q := fun q h => by rw [← hAe]; exact Or.inr h
  have hS : va_S A s.heap s.heap [] := va_S.rf
  have hl := lv_entry ([.long a, .long b]) (n := 4) (Nat.le_of_ble_eq_true rfl)
  rw [lg_entry_eq]
  generalize (lg_sl ([.long a, .long b]) ++ List.replicate (4 - (lg_sl ([.long a, .long b])).length) Slot.unset).toArray = ls at hl ⊢
  have hl : lv_has ls 4 [(0, .long a), (2, .long b)] := hl
  refine lv_lload_n hx hb d_Ar_isBelow_0 rfl (lv_at hl 0 rfl) ?_
  refine lv_ldc2 (v := (-9223372036854775808)) hx hb hown (hts _ m_1034) d_Ar_isBelow_1 ?_
  refine lv_lxor hx hb d_Ar_isBelow_4 ?_
  refine lv_lload_n hx hb d_Ar_isBelow_5 rfl (lv_at hl 1 rfl) ?_
  refine lv_ldc2 (v := (-9223372036854775808)) hx hb hown (hts _ m_1034) d_Ar_isBelow_6 ?_
  refine lv_lxor hx hb d_Ar_isBelow_9 ?_
  refine W.lcmp hx hb d_Ar_isBelow_10 ?_
  refine lv_if_ge (tgt := 18) hx hb d_Ar_isBelow_11 (by decide) (fun c_1 => ?_) (fun c_1 => ?_)
  · refine lv_iconst (v := 0) hx hb d_Ar_isBelow_18 (by decide) ?_
    exact ex_W (fun _ h => ex_mq h) (W.zret (v := 0) hx hb hr rfl (fun t ht hW => ⟨⟨_, ⟨congrArg (fun z => Outcome.returned (some (Value.int z))) (by simp [fBelow, c_1]), rfl⟩, by rw [ht]; exact hP, hD⟩, hS.F ht⟩) hS.2.2 d_Ar_isBelow_19)
  · refine lv_iconst (v := 1) hx hb d_Ar_isBelow_14 (by decide) ?_
    refine lv_goto (tgt := 19) hx hb d_Ar_isBelow_15 (by decide) ?_
    exact ex_W (fun _ h => ex_mq h) (W.zret (v := 1) hx hb hr rfl (fun t ht hW => ⟨⟨_, ⟨congrArg (fun z => Outcome.returned (some (Value.int z))) (by simp [fBelow, c_1]), rfl⟩, by rw [ht]; exact hP, hD⟩, hS.F ht⟩) hS.2.2 d_Ar_isBelow_19)
set_option maxHeartbeats 8000000 in
set_option maxRecDepth 100000 in
theorem c_Ar_filled (l : Launch) (htr : l.stackTraces = false) (G : va_G) (cB cI cJ cZ : ClassId) (a : Int64) (sz : Nat) : MetX l y_Ar_filled (wx y_Ar_filled b_Ar_filled 5 (some .long)) { frames := 0, cells := 0, slots := 0, locals := 0 } (XP G classes (xtys cB cI cJ cZ) xE [.long a] [] sz) (XQ G classes (va_A [] sz) (fun o w1 => o = .returned (some (.long (fFill a))) ∧ w1 = [])) 0 0 (va_A [] sz) := by
  refine ex_ofW (cc := b_Ar_filled) (maxL := 5) (ret := (some .long)) (by decide) rfl ?_
  intro p e s m args below meth c s₁ B hml hno hv
  obtain ⟨rfl, hsz, hP, hK, hD0, hE⟩ := hv
  have hx := B.exec
  have hb := B.bytes
  have hr := B.returns
  have hts : ∀ w ∈ lw_good, w.before _ s = true := fun w h => atoms_spec (ws := wx y_Ar_filled b_Ar_filled 5 (some .long)) B.pre w (List.mem_cons_of_mem _ h)
  have hown : s.vm.findClass R_Ar = some m.cls := findClass_of_methodNamed B.named
  have hlocks := B.notSynchronized
  have htr9 : e.platform.stackTraces = false := by rw [B.admits.platform]; exact htr
  subst hsz
  have hNS := xx_nostat hP
  have hD := hD0.self (sz := s.heap.size)
  generalize hAe : va_A [] s.heap.size = A at hD hE hNS ⊢
  have hA : ∀ q : Nat, s.heap.size ≤ q → A q := fun q h => by rw [← hAe]; exact Or.inr h
  have hS : va_S A s.heap s.heap [] := va_S.rf
  have hl := lv_entry ([.long a]) (n := 5) (Nat.le_of_ble_eq_true rfl)
  rw [lg_entry_eq]
  generalize (lg_sl ([.long a]) ++ List.replicate (5 - (lg_sl ([.long a])).length) Slot.unset).toArray = ls at hl ⊢
  have hl : lv_has ls 5 [(0, .long a)] := hl
  refine lv_lload_n hx hb d_Ar_filled_0 rfl (lv_at hl 0 rfl) ?_
  refine lv_lstore_n (lv' := [(2, .long a), (0, .long a)]) hx hb d_Ar_filled_1 rfl hl (by decide) rfl (fun ls hl => ?_)
  refine lv_iconst (v := 1) hx hb d_Ar_filled_2 (by decide) ?_
  refine lv_istore (lv' := [(4, .int 1), (2, .long a), (0, .long a)]) hx hb d_Ar_filled_3 hl (by decide) rfl (fun ls hl => ?_)
  refine lv_iload hx hb d_Ar_filled_5 (lv_at hl 0 rfl) ?_
  refine lv_bipush (v := 64) hx hb d_Ar_filled_7 (by decide) ?_
  refine lv_icmp_ge (tgt := 28) hx hb d_Ar_filled_9 (by decide) (fun c_1 => absurd c_1 (by decide)) (fun c_1 => ?_)
  refine lv_lload_n hx hb d_Ar_filled_12 rfl (lv_at hl 1 rfl) ?_
  refine lv_lload_n hx hb d_Ar_filled_13 rfl (lv_at hl 1 rfl) ?_
  refine lv_iload hx hb d_Ar_filled_14 (lv_at hl 0 rfl) ?_
  refine lv_lushr hx hb d_Ar_filled_16 rfl ?_
  refine lv_lor hx hb d_Ar_filled_17 ?_
  refine lv_topl (fun y_2 e_3 => ?_)
  refine lv_lstore_n (lv' := [(2, .long y_2), (4, .int 1), (0, .long a)]) hx hb d_Ar_filled_18 rfl hl (by decide) rfl (fun ls hl => ?_)
  refine lv_iload hx hb d_Ar_filled_19 (lv_at hl 1 rfl) ?_
  refine lv_iconst (v := 2) hx hb d_Ar_filled_21 (by decide) ?_
  refine lv_imul hx hb d_Ar_filled_22 ?_
  refine lv_topi (fun x9 e_4 => ?_)
  obtain rfl : x9 = 2 := e_4.trans (by decide)
  refine lv_istore (lv' := [(4, .int 2), (2, .long y_2), (0, .long a)]) hx hb d_Ar_filled_23 hl (by decide) rfl (fun ls hl => ?_)
  refine lv_goto (tgt := 5) hx hb d_Ar_filled_25 (by decide) ?_
  refine lv_iload hx hb d_Ar_filled_5 (lv_at hl 0 rfl) ?_
  refine lv_bipush (v := 64) hx hb d_Ar_filled_7 (by decide) ?_
  refine lv_icmp_ge (tgt := 28) hx hb d_Ar_filled_9 (by decide) (fun c_5 => absurd c_5 (by decide)) (fun c_5 => ?_)
  refine lv_lload_n hx hb d_Ar_filled_12 rfl (lv_at hl 1 rfl) ?_
  refine lv_lload_n hx hb d_Ar_filled_13 rfl (lv_at hl 1 rfl) ?_
  refine lv_iload hx hb d_Ar_filled_14 (lv_at hl 0 rfl) ?_
  refine lv_lushr hx hb d_Ar_filled_16 rfl ?_
  refine lv_lor hx hb d_Ar_filled_17 ?_
  refine lv_topl (fun y_6 e_7 => ?_)
  refine lv_lstore_n (lv' := [(2, .long y_6), (4, .int 2), (0, .long a)]) hx hb d_Ar_filled_18 rfl hl (by decide) rfl (fun ls hl => ?_)
  refine lv_iload hx hb d_Ar_filled_19 (lv_at hl 1 rfl) ?_
  refine lv_iconst (v := 2) hx hb d_Ar_filled_21 (by decide) ?_
  refine lv_imul hx hb d_Ar_filled_22 ?_
  refine lv_topi (fun x9 e_8 => ?_)
  obtain rfl : x9 = 4 := e_8.trans (by decide)
  refine lv_istore (lv' := [(4, .int 4), (2, .long y_6), (0, .long a)]) hx hb d_Ar_filled_23 hl (by decide) rfl (fun ls hl => ?_)
  refine lv_goto (tgt := 5) hx hb d_Ar_filled_25 (by decide) ?_
  refine lv_iload hx hb d_Ar_filled_5 (lv_at hl 0 rfl) ?_
  refine lv_bipush (v := 64) hx hb d_Ar_filled_7 (by decide) ?_
  refine lv_icmp_ge (tgt := 28) hx hb d_Ar_filled_9 (by decide) (fun c_9 => absurd c_9 (by decide)) (fun c_9 => ?_)
  refine lv_lload_n hx hb d_Ar_filled_12 rfl (lv_at hl 1 rfl) ?_
  refine lv_lload_n hx hb d_Ar_filled_13 rfl (lv_at hl 1 rfl) ?_
  refine lv_iload hx hb d_Ar_filled_14 (lv_at hl 0 rfl) ?_
  refine lv_lushr hx hb d_Ar_filled_16 rfl ?_
  refine lv_lor hx hb d_Ar_filled_17 ?_
  refine lv_topl (fun y_10 e_11 => ?_)
  refine lv_lstore_n (lv' := [(2, .long y_10), (4, .int 4), (0, .long a)]) hx hb d_Ar_filled_18 rfl hl (by decide) rfl (fun ls hl => ?_)
  refine lv_iload hx hb d_Ar_filled_19 (lv_at hl 1 rfl) ?_
  refine lv_iconst (v := 2) hx hb d_Ar_filled_21 (by decide) ?_
  refine lv_imul hx hb d_Ar_filled_22 ?_
  refine lv_topi (fun x9 e_12 => ?_)
  obtain rfl : x9 = 8 := e_12.trans (by decide)
  refine lv_istore (lv' := [(4, .int 8), (2, .long y_10), (0, .long a)]) hx hb d_Ar_filled_23 hl (by decide) rfl (fun ls hl => ?_)
  refine lv_goto (tgt := 5) hx hb d_Ar_filled_25 (by decide) ?_
  refine lv_iload hx hb d_Ar_filled_5 (lv_at hl 0 rfl) ?_
  refine lv_bipush (v := 64) hx hb d_Ar_filled_7 (by decide) ?_
  refine lv_icmp_ge (tgt := 28) hx hb d_Ar_filled_9 (by decide) (fun c_13 => absurd c_13 (by decide)) (fun c_13 => ?_)
  refine lv_lload_n hx hb d_Ar_filled_12 rfl (lv_at hl 1 rfl) ?_
  refine lv_lload_n hx hb d_Ar_filled_13 rfl (lv_at hl 1 rfl) ?_
  refine lv_iload hx hb d_Ar_filled_14 (lv_at hl 0 rfl) ?_
  refine lv_lushr hx hb d_Ar_filled_16 rfl ?_
  refine lv_lor hx hb d_Ar_filled_17 ?_
  refine lv_topl (fun y_14 e_15 => ?_)
  refine lv_lstore_n (lv' := [(2, .long y_14), (4, .int 8), (0, .long a)]) hx hb d_Ar_filled_18 rfl hl (by decide) rfl (fun ls hl => ?_)
  refine lv_iload hx hb d_Ar_filled_19 (lv_at hl 1 rfl) ?_
  refine lv_iconst (v := 2) hx hb d_Ar_filled_21 (by decide) ?_
  refine lv_imul hx hb d_Ar_filled_22 ?_
  refine lv_topi (fun x9 e_16 => ?_)
  obtain rfl : x9 = 16 := e_16.trans (by decide)
  refine lv_istore (lv' := [(4, .int 16), (2, .long y_14), (0, .long a)]) hx hb d_Ar_filled_23 hl (by decide) rfl (fun ls hl => ?_)
  refine lv_goto (tgt := 5) hx hb d_Ar_filled_25 (by decide) ?_
  refine lv_iload hx hb d_Ar_filled_5 (lv_at hl 0 rfl) ?_
  refine lv_bipush (v := 64) hx hb d_Ar_filled_7 (by decide) ?_
  refine lv_icmp_ge (tgt := 28) hx hb d_Ar_filled_9 (by decide) (fun c_17 => absurd c_17 (by decide)) (fun c_17 => ?_)
  refine lv_lload_n hx hb d_Ar_filled_12 rfl (lv_at hl 1 rfl) ?_
  refine lv_lload_n hx hb d_Ar_filled_13 rfl (lv_at hl 1 rfl) ?_
  refine lv_iload hx hb d_Ar_filled_14 (lv_at hl 0 rfl) ?_
  refine lv_lushr hx hb d_Ar_filled_16 rfl ?_
  refine lv_lor hx hb d_Ar_filled_17 ?_
  refine lv_topl (fun y_18 e_19 => ?_)
  refine lv_lstore_n (lv' := [(2, .long y_18), (4, .int 16), (0, .long a)]) hx hb d_Ar_filled_18 rfl hl (by decide) rfl (fun ls hl => ?_)
  refine lv_iload hx hb d_Ar_filled_19 (lv_at hl 1 rfl) ?_
  refine lv_iconst (v := 2) hx hb d_Ar_filled_21 (by decide) ?_
  refine lv_imul hx hb d_Ar_filled_22 ?_
  refine lv_topi (fun x9 e_20 => ?_)
  obtain rfl : x9 = 32 := e_20.trans (by decide)
  refine lv_istore (lv' := [(4, .int 32), (2, .long y_18), (0, .long a)]) hx hb d_Ar_filled_23 hl (by decide) rfl (fun ls hl => ?_)
  refine lv_goto (tgt := 5) hx hb d_Ar_filled_25 (by decide) ?_
  refine lv_iload hx hb d_Ar_filled_5 (lv_at hl 0 rfl) ?_
  refine lv_bipush (v := 64) hx hb d_Ar_filled_7 (by decide) ?_
  refine lv_icmp_ge (tgt := 28) hx hb d_Ar_filled_9 (by decide) (fun c_21 => absurd c_21 (by decide)) (fun c_21 => ?_)
  refine lv_lload_n hx hb d_Ar_filled_12 rfl (lv_at hl 1 rfl) ?_
  refine lv_lload_n hx hb d_Ar_filled_13 rfl (lv_at hl 1 rfl) ?_
  refine lv_iload hx hb d_Ar_filled_14 (lv_at hl 0 rfl) ?_
  refine lv_lushr hx hb d_Ar_filled_16 rfl ?_
  refine lv_lor hx hb d_Ar_filled_17 ?_
  refine lv_topl (fun y_22 e_23 => ?_)
  refine lv_lstore_n (lv' := [(2, .long y_22), (4, .int 32), (0, .long a)]) hx hb d_Ar_filled_18 rfl hl (by decide) rfl (fun ls hl => ?_)
  refine lv_iload hx hb d_Ar_filled_19 (lv_at hl 1 rfl) ?_
  refine lv_iconst (v := 2) hx hb d_Ar_filled_21 (by decide) ?_
  refine lv_imul hx hb d_Ar_filled_22 ?_
  refine lv_topi (fun x9 e_24 => ?_)
  obtain rfl : x9 = 64 := e_24.trans (by decide)
  refine lv_istore (lv' := [(4, .int 64), (2, .long y_22), (0, .long a)]) hx hb d_Ar_filled_23 hl (by decide) rfl (fun ls hl => ?_)
  refine lv_goto (tgt := 5) hx hb d_Ar_filled_25 (by decide) ?_
  refine lv_iload hx hb d_Ar_filled_5 (lv_at hl 0 rfl) ?_
  refine lv_bipush (v := 64) hx hb d_Ar_filled_7 (by decide) ?_
  refine lv_icmp_ge (tgt := 28) hx hb d_Ar_filled_9 (by decide) (fun c_25 => ?_) (fun c_25 => absurd c_25 (by decide))
  refine lv_lload_n hx hb d_Ar_filled_28 rfl (lv_at hl 1 rfl) ?_
  exact ex_W (fun _ h => ex_mq h) (W.lret (v := y_22) hx hb hr (fun t ht hW => ⟨⟨_, ⟨congrArg (fun z => Outcome.returned (some (Value.long z))) (by subst_vars; rfl), rfl⟩, by rw [ht]; exact hP, hD⟩, hS.F ht⟩) hS.2.2 d_Ar_filled_29)
