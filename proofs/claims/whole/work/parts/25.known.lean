abbrev b_Op_isKnown : ByteArray := prog_8_method_2_code
def y_Op_isKnown : MethodName := ⟨R_Op, "isKnown", "(I)Z"⟩
theorem d_Op_isKnown_0 : decode b_Op_isKnown 0 = .ok (.iconst 0, 1) := by decide +kernel
theorem d_Op_isKnown_1 : decode b_Op_isKnown 1 = .ok (.istore_n 1, 1) := by decide +kernel
theorem d_Op_isKnown_2 : decode b_Op_isKnown 2 = .ok (.iload_n 1, 1) := by decide +kernel
theorem d_Op_isKnown_3 : decode b_Op_isKnown 3 = .ok (.iconst 1, 1) := by decide +kernel
theorem d_Op_isKnown_4 : decode b_Op_isKnown 4 = .ok (.iadd, 1) := by decide +kernel
theorem d_Op_isKnown_5 : decode b_Op_isKnown 5 = .ok (.getstatic 9, 3) := by decide +kernel
theorem d_Op_isKnown_8 : decode b_Op_isKnown 8 = .ok (.arraylength, 1) := by decide +kernel
theorem d_Op_isKnown_9 : decode b_Op_isKnown 9 = .ok (.if_icmp .ge 31, 3) := by decide +kernel
theorem d_Op_isKnown_12 : decode b_Op_isKnown 12 = .ok (.iload_n 0, 1) := by decide +kernel
theorem d_Op_isKnown_13 : decode b_Op_isKnown 13 = .ok (.getstatic 9, 3) := by decide +kernel
theorem d_Op_isKnown_16 : decode b_Op_isKnown 16 = .ok (.iload_n 1, 1) := by decide +kernel
theorem d_Op_isKnown_17 : decode b_Op_isKnown 17 = .ok (.iaload, 1) := by decide +kernel
theorem d_Op_isKnown_18 : decode b_Op_isKnown 18 = .ok (.if_icmp .lt 16, 3) := by decide +kernel
theorem d_Op_isKnown_21 : decode b_Op_isKnown 21 = .ok (.iload_n 0, 1) := by decide +kernel
theorem d_Op_isKnown_22 : decode b_Op_isKnown 22 = .ok (.getstatic 9, 3) := by decide +kernel
theorem d_Op_isKnown_25 : decode b_Op_isKnown 25 = .ok (.iload_n 1, 1) := by decide +kernel
theorem d_Op_isKnown_26 : decode b_Op_isKnown 26 = .ok (.iconst 1, 1) := by decide +kernel
theorem d_Op_isKnown_27 : decode b_Op_isKnown 27 = .ok (.iadd, 1) := by decide +kernel
theorem d_Op_isKnown_28 : decode b_Op_isKnown 28 = .ok (.iaload, 1) := by decide +kernel
theorem d_Op_isKnown_29 : decode b_Op_isKnown 29 = .ok (.if_icmp .gt 5, 3) := by decide +kernel
theorem d_Op_isKnown_32 : decode b_Op_isKnown 32 = .ok (.iconst 1, 1) := by decide +kernel
theorem d_Op_isKnown_33 : decode b_Op_isKnown 33 = .ok (.ireturn, 1) := by decide +kernel
theorem d_Op_isKnown_34 : decode b_Op_isKnown 34 = .ok (.iinc 1 2, 3) := by decide +kernel
theorem d_Op_isKnown_37 : decode b_Op_isKnown 37 = .ok (.goto (-35), 3) := by decide +kernel
theorem d_Op_isKnown_40 : decode b_Op_isKnown 40 = .ok (.iconst 0, 1) := by decide +kernel
theorem d_Op_isKnown_41 : decode b_Op_isKnown 41 = .ok (.ireturn, 1) := by decide +kernel
theorem m_712 : Cond.fieldLink R_Op 9 "WaferRunner$Op" "KNOWN" "[I" ∈ lw_good := lw_in (List.mem_append_right _ (List.mem_of_getElem? (i := 712) (by decide +kernel))) (by decide +kernel)
set_option maxHeartbeats 8000000 in
set_option maxRecDepth 100000 in
theorem c_Op_isKnown (l : Launch) (htr : l.stackTraces = false) (G : va_G) (cB cI cJ cZ : ClassId) (op : Int32) (sz : Nat) : MetX l y_Op_isKnown (wx y_Op_isKnown b_Op_isKnown 2 (some .boolean)) { frames := 0, cells := 0, slots := 0, locals := 0 } (XP G classes (xtys cB cI cJ cZ) xE [.int op] [] sz) (XQ G classes (va_A [] sz) (fun o w1 => o = .returned (some (.int (fKnown op 13 0))) ∧ w1 = [])) 0 0 (va_A [] sz) := by
  refine ex_ofW (cc := b_Op_isKnown) (maxL := 2) (ret := (some .boolean)) (by decide) rfl ?_
  intro p e s m args below meth c s₁ B hml hno hv
  obtain ⟨rfl, hsz, hP, hK, hD0, hE⟩ := hv
  have hx := B.exec
  have hb := B.bytes
  have hr := B.returns
  have hts : ∀ w ∈ lw_good, w.before _ s = true := fun w h => atoms_spec (ws := wx y_Op_isKnown b_Op_isKnown 2 (some .boolean)) B.pre w (List.mem_cons_of_mem _ h)
  have hown : s.vm.findClass R_Op = some m.cls := findClass_of_methodNamed B.named
  have hlocks := B.notSynchronized
  have htr9 : e.platform.stackTraces = false := by rw [B.admits.platform]; exact htr
  subst hsz
  have hNS := xx_nostat hP
  have hD := hD0.self (sz := s.heap.size)
  generalize hAe : va_A [] s.heap.size = A at hD hE hNS ⊢
  have hA : ∀ q : Nat, s.heap.size ≤ q → A q := fun q h => by rw [← hAe]; exact Or.inr h
  have hS : va_S A s.heap s.heap [] := va_S.rf
  have hl := lv_entry ([.int op]) (n := 2) (Nat.le_of_ble_eq_true rfl)
  rw [lg_entry_eq]
  generalize (lg_sl ([.int op]) ++ List.replicate (2 - (lg_sl ([.int op])).length) Slot.unset).toArray = ls at hl ⊢
  have hl : lv_has ls 2 [(0, .int op)] := hl
  refine lv_iconst (v := 0) hx hb d_Op_isKnown_0 (by decide) ?_
  refine lv_istore_n (lv' := [(1, .int 0), (0, .int op)]) hx hb d_Op_isKnown_1 rfl hl (by decide) rfl (fun ls hl => ?_)
  have loop_2 : ∀ (n9 : Nat) (k : Nat), k + 2 * n9 = 28 → k ≤ 26 → fKnown op 13 0 = fKnown op (n9 - 1) k →  ∀ (H : Heap) (locs : List Loc), va_P G classes [] H → va_D A [] → va_S A s.heap H locs → ∀ (ls : Array Slot), lv_has ls 2 [(1, .int (nI k)), (0, .int op)] → W p l e (headSpec (wx y_Op_isKnown b_Op_isKnown 2 (some .boolean)) { frames := 0, cells := 0, slots := 0, locals := 0 }).room s m ([.int op] : List Value).toArray below meth c H locs 0 0 (MX below (XQ G classes A (fun o w1 => o = .returned (some (.int (fKnown op 13 0))) ∧ w1 = [])) ([.int op] : List Value).toArray s 0 0 A) (F0 m 2 ls []) := by
    intro n9
    induction n9 with
    | zero => intro k hk hk2 hf; exact absurd hk2 (by omega)
    | succ n9 ih_2 =>
      intro k hk hk2 hf H locs hP hD hS ls hl
      refine lv_iload_n hx hb d_Op_isKnown_2 rfl (lv_at hl 0 rfl) ?_
      refine lv_iconst (v := 1) hx hb d_Op_isKnown_3 (by decide) ?_
      refine lv_iadd hx hb d_Op_isKnown_4 ?_
      refine lv_topi (fun x9 e_1 => ?_)
      obtain rfl : x9 = nI (k + 1) := e_1.trans (nI_add _ 1)
      obtain ⟨T_KNOWN, hZT_KNOWN, hT_KNOWN⟩ := hE.2.2.2.2.2.2.1
      refine va_gets hx hb hZT_KNOWN hS hown (hts _ m_712) (fun _ h9 => h9) d_Op_isKnown_5 ?_
      refine va_tlen (v := 26) hx hb hT_KNOWN hS rfl d_Op_isKnown_8 ?_
      refine lv_icmp_ge (tgt := 40) hx hb d_Op_isKnown_9 (by decide) (fun c_2 => ?_) (fun c_2 => ?_)
      · have hz : n9 = 0 := by have q := (nI_leI (a := 26) (b := k + 1) (by decide) (by omega)).mp c_2; omega
        subst hz
        refine lv_iconst (v := 0) hx hb d_Op_isKnown_40 (by decide) ?_
        exact ex_W (fun _ h => ex_mq h) (W.zret (v := 0) hx hb hr rfl (fun t ht hW => ⟨⟨_, ⟨congrArg (fun z => Outcome.returned (some (Value.int z))) (by rw [hf]; simp [fKnown]), rfl⟩, by rw [ht]; exact hP, hD⟩, hS.F ht⟩) hS.2.2 d_Op_isKnown_41)
      · have hz : k + 1 < 26 := by rcases Nat.lt_or_ge (k + 1) 26 with q | q; exact q; exact absurd (nI_le q (by omega)) c_2
        obtain ⟨j, rfl⟩ : ∃ j, n9 = j + 1 := ⟨n9 - 1, by omega⟩
        refine lv_iload_n hx hb d_Op_isKnown_12 rfl (lv_at hl 1 rfl) ?_
        refine va_gets hx hb hZT_KNOWN hS hown (hts _ m_712) (fun _ h9 => h9) d_Op_isKnown_13 ?_
        refine lv_iload_n hx hb d_Op_isKnown_16 rfl (lv_at hl 0 rfl) ?_
        refine va_ti (v := .int (xKnown k)) hx hb hT_KNOWN hS (vp_in_nI (show k < 26 by omega) (by decide)) (by rw [nI_clamp (show k < 2 ^ 31 by omega)]) d_Op_isKnown_17 ?_
        refine lv_icmp_lt (tgt := 34) hx hb d_Op_isKnown_18 (by decide) (fun c_3 => ?_) (fun c_3 => ?_)
        · refine lv_iinc (v := (nI (k + 2))) (lv' := [(1, .int (nI (k + 2))), (0, .int op)]) hx hb d_Op_isKnown_34 hl (k := 0) rfl (by first | rfl | decide | exact nI_add _ _) (by decide) rfl (fun ls hl => ?_)
          refine lv_goto (tgt := 2) hx hb d_Op_isKnown_37 (by decide) ?_
          exact ih_2 (k + 2) (by omega) (by omega) (by rw [hf]; simp [fKnown, c_3]) _ _ hP hD hS _ (lv_sub hl [0, 1] rfl)
        · refine lv_iload_n hx hb d_Op_isKnown_21 rfl (lv_at hl 1 rfl) ?_
          refine va_gets hx hb hZT_KNOWN hS hown (hts _ m_712) (fun _ h9 => h9) d_Op_isKnown_22 ?_
          refine lv_iload_n hx hb d_Op_isKnown_25 rfl (lv_at hl 0 rfl) ?_
          refine lv_iconst (v := 1) hx hb d_Op_isKnown_26 (by decide) ?_
          refine lv_iadd hx hb d_Op_isKnown_27 ?_
          refine lv_topi (fun x9 e_4 => ?_)
          obtain rfl : x9 = nI (k + 1) := e_4.trans (nI_add _ 1)
          refine va_ti (v := .int (xKnown (k + 1))) hx hb hT_KNOWN hS (vp_in_nI (show k + 1 < 26 by omega) (by decide)) (by rw [nI_clamp (show k + 1 < 2 ^ 31 by omega)]) d_Op_isKnown_28 ?_
          refine lv_icmp_gt (tgt := 34) hx hb d_Op_isKnown_29 (by decide) (fun c_5 => ?_) (fun c_5 => ?_)
          · refine lv_iinc (v := (nI (k + 2))) (lv' := [(1, .int (nI (k + 2))), (0, .int op)]) hx hb d_Op_isKnown_34 hl (k := 0) rfl (by first | rfl | decide | exact nI_add _ _) (by decide) rfl (fun ls hl => ?_)
            refine lv_goto (tgt := 2) hx hb d_Op_isKnown_37 (by decide) ?_
            exact ih_2 (k + 2) (by omega) (by omega) (by rw [hf]; simp [fKnown, c_3, c_5]) _ _ hP hD hS _ (lv_sub hl [0, 1] rfl)
          · refine lv_iconst (v := 1) hx hb d_Op_isKnown_32 (by decide) ?_
            exact ex_W (fun _ h => ex_mq h) (W.zret (v := 1) hx hb hr rfl (fun t ht hW => ⟨⟨_, ⟨congrArg (fun z => Outcome.returned (some (Value.int z))) (by rw [hf]; simp [fKnown, c_3, c_5]), rfl⟩, by rw [ht]; exact hP, hD⟩, hS.F ht⟩) hS.2.2 d_Op_isKnown_33)
  exact loop_2 14 0 (by omega) (by omega) rfl _ _ hP hD hS _ (lv_sub hl [0, 1] rfl)
