def mPh (h : Nat) : Nat := if h < 12096 then h + 1 else h
def mPr (h : Nat) (r : Int32) : Int32 := if h < 12096 then r else 7
def mPg (g : Nat → Int64) (h : Nat) (v : Int64) : Nat → Int64 := if h < 12096 then vp_updL g h v else g
theorem mPh_le {h : Nat} (hh : h ≤ 12096) : mPh h ≤ 12096 := by unfold mPh; split <;> omega
def mSel (g : Nat → Int64) (h : Nat) : Int64 := if lg_cmp (g (h + 1 + 1)) 0 = 0 then g (h + 1) else g h
abbrev b_Ma_push : ByteArray := prog_7_method_21_code
def y_Ma_push : MethodName := ⟨R_Ma, "push", "(J)V"⟩
abbrev b_Ma_pop : ByteArray := prog_7_method_22_code
def y_Ma_pop : MethodName := ⟨R_Ma, "pop", "()J"⟩
abbrev b_Ma_select : ByteArray := prog_7_method_12_code
def y_Ma_select : MethodName := ⟨R_Ma, "select", "()V"⟩
theorem d_Ma_push_0 : decode b_Ma_push 0 = .ok (.aload_n 0, 1) := by decide +kernel
theorem d_Ma_push_1 : decode b_Ma_push 1 = .ok (.getfield 74, 3) := by decide +kernel
theorem d_Ma_push_4 : decode b_Ma_push 4 = .ok (.sipush 12096, 3) := by decide +kernel
theorem d_Ma_push_7 : decode b_Ma_push 7 = .ok (.if_icmp .lt 10, 3) := by decide +kernel
theorem d_Ma_push_10 : decode b_Ma_push 10 = .ok (.aload_n 0, 1) := by decide +kernel
theorem d_Ma_push_11 : decode b_Ma_push 11 = .ok (.bipush 7, 2) := by decide +kernel
theorem d_Ma_push_13 : decode b_Ma_push 13 = .ok (.putfield 68, 3) := by decide +kernel
theorem d_Ma_push_16 : decode b_Ma_push 16 = .ok (.return_, 1) := by decide +kernel
theorem d_Ma_push_17 : decode b_Ma_push 17 = .ok (.aload_n 0, 1) := by decide +kernel
theorem d_Ma_push_18 : decode b_Ma_push 18 = .ok (.getfield 22, 3) := by decide +kernel
theorem d_Ma_push_21 : decode b_Ma_push 21 = .ok (.aload_n 0, 1) := by decide +kernel
theorem d_Ma_push_22 : decode b_Ma_push 22 = .ok (.getfield 74, 3) := by decide +kernel
theorem d_Ma_push_25 : decode b_Ma_push 25 = .ok (.lload_n 1, 1) := by decide +kernel
theorem d_Ma_push_26 : decode b_Ma_push 26 = .ok (.lastore, 1) := by decide +kernel
theorem d_Ma_push_27 : decode b_Ma_push 27 = .ok (.aload_n 0, 1) := by decide +kernel
theorem d_Ma_push_28 : decode b_Ma_push 28 = .ok (.dup, 1) := by decide +kernel
theorem d_Ma_push_29 : decode b_Ma_push 29 = .ok (.getfield 74, 3) := by decide +kernel
theorem d_Ma_push_32 : decode b_Ma_push 32 = .ok (.iconst 1, 1) := by decide +kernel
theorem d_Ma_push_33 : decode b_Ma_push 33 = .ok (.iadd, 1) := by decide +kernel
theorem d_Ma_push_34 : decode b_Ma_push 34 = .ok (.putfield 74, 3) := by decide +kernel
theorem d_Ma_push_37 : decode b_Ma_push 37 = .ok (.return_, 1) := by decide +kernel
theorem d_Ma_pop_0 : decode b_Ma_pop 0 = .ok (.aload_n 0, 1) := by decide +kernel
theorem d_Ma_pop_1 : decode b_Ma_pop 1 = .ok (.dup, 1) := by decide +kernel
theorem d_Ma_pop_2 : decode b_Ma_pop 2 = .ok (.getfield 74, 3) := by decide +kernel
theorem d_Ma_pop_5 : decode b_Ma_pop 5 = .ok (.iconst 1, 1) := by decide +kernel
theorem d_Ma_pop_6 : decode b_Ma_pop 6 = .ok (.isub, 1) := by decide +kernel
theorem d_Ma_pop_7 : decode b_Ma_pop 7 = .ok (.putfield 74, 3) := by decide +kernel
theorem d_Ma_pop_10 : decode b_Ma_pop 10 = .ok (.aload_n 0, 1) := by decide +kernel
theorem d_Ma_pop_11 : decode b_Ma_pop 11 = .ok (.getfield 22, 3) := by decide +kernel
theorem d_Ma_pop_14 : decode b_Ma_pop 14 = .ok (.aload_n 0, 1) := by decide +kernel
theorem d_Ma_pop_15 : decode b_Ma_pop 15 = .ok (.getfield 74, 3) := by decide +kernel
theorem d_Ma_pop_18 : decode b_Ma_pop 18 = .ok (.laload, 1) := by decide +kernel
theorem d_Ma_pop_19 : decode b_Ma_pop 19 = .ok (.lreturn, 1) := by decide +kernel
theorem d_Ma_select_0 : decode b_Ma_select 0 = .ok (.aload_n 0, 1) := by decide +kernel
theorem d_Ma_select_1 : decode b_Ma_select 1 = .ok (.invokevirtual 142, 3) := by decide +kernel
theorem d_Ma_select_4 : decode b_Ma_select 4 = .ok (.lstore_n 1, 1) := by decide +kernel
theorem d_Ma_select_5 : decode b_Ma_select 5 = .ok (.aload_n 0, 1) := by decide +kernel
theorem d_Ma_select_6 : decode b_Ma_select 6 = .ok (.invokevirtual 142, 3) := by decide +kernel
theorem d_Ma_select_9 : decode b_Ma_select 9 = .ok (.lstore_n 3, 1) := by decide +kernel
theorem d_Ma_select_10 : decode b_Ma_select 10 = .ok (.aload_n 0, 1) := by decide +kernel
theorem d_Ma_select_11 : decode b_Ma_select 11 = .ok (.invokevirtual 142, 3) := by decide +kernel
theorem d_Ma_select_14 : decode b_Ma_select 14 = .ok (.lstore 5, 2) := by decide +kernel
theorem d_Ma_select_16 : decode b_Ma_select 16 = .ok (.aload_n 0, 1) := by decide +kernel
theorem d_Ma_select_17 : decode b_Ma_select 17 = .ok (.lload_n 1, 1) := by decide +kernel
theorem d_Ma_select_18 : decode b_Ma_select 18 = .ok (.lconst 0, 1) := by decide +kernel
theorem d_Ma_select_19 : decode b_Ma_select 19 = .ok (.lcmp, 1) := by decide +kernel
theorem d_Ma_select_20 : decode b_Ma_select 20 = .ok (.ifCond .eq 8, 3) := by decide +kernel
theorem d_Ma_select_23 : decode b_Ma_select 23 = .ok (.lload 5, 2) := by decide +kernel
theorem d_Ma_select_25 : decode b_Ma_select 25 = .ok (.goto 4, 3) := by decide +kernel
theorem d_Ma_select_28 : decode b_Ma_select 28 = .ok (.lload_n 3, 1) := by decide +kernel
theorem d_Ma_select_29 : decode b_Ma_select 29 = .ok (.invokevirtual 88, 3) := by decide +kernel
theorem d_Ma_select_32 : decode b_Ma_select 32 = .ok (.return_, 1) := by decide +kernel
theorem m_171 : Cond.fieldLink R_Ma 74 "WaferRunner$Machine" "height" "I" ∈ lw_good := lw_in (List.mem_append_right _ (List.mem_of_getElem? (i := 171) (by decide +kernel))) (by decide +kernel)
theorem m_168 : Cond.fieldLink R_Ma 68 "WaferRunner$Machine" "reason" "I" ∈ lw_good := lw_in (List.mem_append_right _ (List.mem_of_getElem? (i := 168) (by decide +kernel))) (by decide +kernel)
theorem m_973 : Cond.code y_Ma_pop b_Ma_pop 1 (some .long) ∈ lw_good := lw_in (List.mem_append_right _ (List.mem_of_getElem? (i := 973) (by decide +kernel))) (by decide +kernel)
theorem m_970 : Cond.methodLink R_Ma 142 y_Ma_pop ∈ lw_good := lw_in (List.mem_append_right _ (List.mem_of_getElem? (i := 970) (by decide +kernel))) (by decide +kernel)
theorem m_972 : Cond.instanceMethod y_Ma_pop ∈ lw_good := lw_in (List.mem_append_right _ (List.mem_of_getElem? (i := 972) (by decide +kernel))) (by decide +kernel)
theorem ms_Ma_pop : Cond.selects R_Ma y_Ma_pop y_Ma_pop ∈ lw_good := lw_in (by decide +kernel) (by decide +kernel)
theorem m_955 : Cond.code y_Ma_push b_Ma_push 3 none ∈ lw_good := lw_in (List.mem_append_right _ (List.mem_of_getElem? (i := 955) (by decide +kernel))) (by decide +kernel)
theorem m_952 : Cond.methodLink R_Ma 88 y_Ma_push ∈ lw_good := lw_in (List.mem_append_right _ (List.mem_of_getElem? (i := 952) (by decide +kernel))) (by decide +kernel)
theorem m_954 : Cond.instanceMethod y_Ma_push ∈ lw_good := lw_in (List.mem_append_right _ (List.mem_of_getElem? (i := 954) (by decide +kernel))) (by decide +kernel)
theorem ms_Ma_push : Cond.selects R_Ma y_Ma_push y_Ma_push ∈ lw_good := lw_in (by decide +kernel) (by decide +kernel)
set_option maxHeartbeats 8000000 in
set_option maxRecDepth 100000 in
theorem c_Ma_push (l : Launch) (htr : l.stackTraces = false) (G : va_G) (cB cI cJ cZ : ClassId) (ma : Nat) (wa : Nat) (co : Nat) (mb : Nat) (mg : Nat) (mk : Nat) (mf : Nat) (mv : Nat) (mr : Nat) (m_written : Int32) (m_pages : Int32) (m_steps : Int32) (m_reason : Int32) (m_next : Int32) (m_depth : Int32) (m_variables : Int32) (m_values : Int32) (h : Nat) (g : Nat → Int64) (v : Int64) (hh : h ≤ 12096) (sz : Nat) : MetX l y_Ma_push (wx y_Ma_push b_Ma_push 3 none) { frames := 0, cells := 0, slots := 0, locals := 0 } (XP G classes (xtys cB cI cJ cZ) xE [.ref ma, .long v] [(ma, .inr (6, [.ref mb, .int m_written, .int m_pages, .ref mg, .int m_steps, .ref wa, .ref co, .int m_reason, .int m_next, .ref mk, .int (nI h), .ref mf, .ref mv, .ref mr, .int m_depth, .int m_variables, .int m_values])), (mk, .inl (cJ, 12096, .inr (.inl g)))] sz) (XQ G classes (va_A [(ma, .inr (6, [.ref mb, .int m_written, .int m_pages, .ref mg, .int m_steps, .ref wa, .ref co, .int m_reason, .int m_next, .ref mk, .int (nI h), .ref mf, .ref mv, .ref mr, .int m_depth, .int m_variables, .int m_values])), (mk, .inl (cJ, 12096, .inr (.inl g)))] sz) (fun o w1 => o = .returned none ∧ w1 = [(ma, .inr (6, [.ref mb, .int m_written, .int m_pages, .ref mg, .int m_steps, .ref wa, .ref co, .int (mPr h m_reason), .int m_next, .ref mk, .int (nI (mPh h)), .ref mf, .ref mv, .ref mr, .int m_depth, .int m_variables, .int m_values])), (mk, .inl (cJ, 12096, .inr (.inl (mPg g h v))))])) 0 0 (va_A [(ma, .inr (6, [.ref mb, .int m_written, .int m_pages, .ref mg, .int m_steps, .ref wa, .ref co, .int m_reason, .int m_next, .ref mk, .int (nI h), .ref mf, .ref mv, .ref mr, .int m_depth, .int m_variables, .int m_values])), (mk, .inl (cJ, 12096, .inr (.inl g)))] sz) := by
  refine ex_ofW (cc := b_Ma_push) (maxL := 3) (ret := none) (by decide) rfl ?_
  intro p e s m args below meth c s₁ B hml hno hv
  obtain ⟨rfl, hsz, hP, hK, hD0, hE⟩ := hv
  have hx := B.exec
  have hb := B.bytes
  have hr := B.returns
  have hts : ∀ w ∈ lw_good, w.before _ s = true := fun w h => atoms_spec (ws := wx y_Ma_push b_Ma_push 3 none) B.pre w (List.mem_cons_of_mem _ h)
  have hown : s.vm.findClass R_Ma = some m.cls := findClass_of_methodNamed B.named
  have hlocks := B.notSynchronized
  have htr9 : e.platform.stackTraces = false := by rw [B.admits.platform]; exact htr
  subst hsz
  have hNS := xx_nostat hP
  have hD := hD0.self (sz := s.heap.size)
  generalize hAe : va_A [(ma, .inr (6, [.ref mb, .int m_written, .int m_pages, .ref mg, .int m_steps, .ref wa, .ref co, .int m_reason, .int m_next, .ref mk, .int (nI h), .ref mf, .ref mv, .ref mr, .int m_depth, .int m_variables, .int m_values])), (mk, .inl (cJ, 12096, .inr (.inl g)))] s.heap.size = A at hD hE hNS ⊢
  have hA : ∀ q : Nat, s.heap.size ≤ q → A q := fun q h => by rw [← hAe]; exact Or.inr h
  have hS : va_S A s.heap s.heap [] := va_S.rf
  have hl := lv_entry ([.ref ma, .long v]) (n := 3) (Nat.le_of_ble_eq_true rfl)
  rw [lg_entry_eq]
  generalize (lg_sl ([.ref ma, .long v]) ++ List.replicate (3 - (lg_sl ([.ref ma, .long v])).length) Slot.unset).toArray = ls at hl ⊢
  have hl : lv_has ls 3 [(0, .ref ma), (1, .long v)] := hl
  refine lv_aload_n hx hb d_Ma_push_0 rfl (lv_at hl 0 rfl) ?_
  refine va_get (D := G) (ci := 6) (v := .int (nI h)) (C := R_Ma) (T := F_Ma) (N := 17) hx hb hts i_Ma hown hK hP 0 rfl rfl 10 (by decide) (hts _ m_171) (fun _ h9 => h9) rfl d_Ma_push_1 ?_
  refine lv_sipush (v := 12096) hx hb d_Ma_push_4 (by decide) ?_
  refine lv_icmp_lt (tgt := 17) hx hb d_Ma_push_7 (by decide) (fun c_1 => ?_) (fun c_1 => ?_)
  · have c_1 : h < 12096 := (nI_ltI (a := h) (b := 12096) (by omega) (by omega)).mp c_1
    refine lv_aload_n hx hb d_Ma_push_17 rfl (lv_at hl 0 rfl) ?_
    refine va_get (D := G) (ci := 6) (v := .ref mk) (C := R_Ma) (T := F_Ma) (N := 17) hx hb hts i_Ma hown hK hP 0 rfl rfl 9 (by decide) (hts _ m_170) (fun _ h9 => h9) rfl d_Ma_push_18 ?_
    refine lv_aload_n hx hb d_Ma_push_21 rfl (lv_at hl 0 rfl) ?_
    refine va_get (D := G) (ci := 6) (v := .int (nI h)) (C := R_Ma) (T := F_Ma) (N := 17) hx hb hts i_Ma hown hK hP 0 rfl rfl 10 (by decide) (hts _ m_171) (fun _ h9 => h9) rfl d_Ma_push_22 ?_
    refine lv_lload_n hx hb d_Ma_push_25 rfl (lv_at hl 1 rfl) ?_
    refine va_last hx hb hK hP hD hS 1 2 rfl rfl (vp_in_nI (show h < 12096 by omega) (by decide)) d_Ma_push_26 (fun H locs hP hD hS => ?_)
    rw [nI_clamp (show h < 2 ^ 31 by omega)] at hP hD
    have hP : va_P G classes [(ma, .inr (6, [.ref mb, .int m_written, .int m_pages, .ref mg, .int m_steps, .ref wa, .ref co, .int m_reason, .int m_next, .ref mk, .int (nI h), .ref mf, .ref mv, .ref mr, .int m_depth, .int m_variables, .int m_values])), (mk, .inl (cJ, 12096, .inr (.inl (vp_updL g h v))))] H := hP
    have hD : va_D A [(ma, .inr (6, [.ref mb, .int m_written, .int m_pages, .ref mg, .int m_steps, .ref wa, .ref co, .int m_reason, .int m_next, .ref mk, .int (nI h), .ref mf, .ref mv, .ref mr, .int m_depth, .int m_variables, .int m_values])), (mk, .inl (cJ, 12096, .inr (.inl (vp_updL g h v))))] := hD
    refine lv_aload_n hx hb d_Ma_push_27 rfl (lv_at hl 0 rfl) ?_
    refine lv_dup hx hb d_Ma_push_28 rfl ?_
    refine va_get (D := G) (ci := 6) (v := .int (nI h)) (C := R_Ma) (T := F_Ma) (N := 17) hx hb hts i_Ma hown hK hP 0 rfl rfl 10 (by decide) (hts _ m_171) (fun _ h9 => h9) rfl d_Ma_push_29 ?_
    refine lv_iconst (v := 1) hx hb d_Ma_push_32 (by decide) ?_
    refine lv_iadd hx hb d_Ma_push_33 ?_
    refine lv_topi (fun x9 e_2 => ?_)
    obtain rfl : x9 = nI (h + 1) := e_2.trans (nI_add _ 1)
    refine va_put (D := G) (ci := 6) (v := .int (nI (h + 1))) (ty := .int) (C := R_Ma) (T := F_Ma) (N := 17) hx hb hts i_Ma t_Ma t_Ma_ok n_Ma hown hK hP hD hS 0 rfl rfl 10 (by decide) (hts _ m_171) (fun _ h9 => h9) rfl (by decide +kernel) rfl rfl (Nat.le_of_ble_eq_true rfl) d_Ma_push_34 (fun H locs hP hD hS => ?_)
    have hP : va_P G classes [(ma, .inr (6, [.ref mb, .int m_written, .int m_pages, .ref mg, .int m_steps, .ref wa, .ref co, .int m_reason, .int m_next, .ref mk, .int (nI (h + 1)), .ref mf, .ref mv, .ref mr, .int m_depth, .int m_variables, .int m_values])), (mk, .inl (cJ, 12096, .inr (.inl (vp_updL g h v))))] H := hP
    have hD : va_D A [(ma, .inr (6, [.ref mb, .int m_written, .int m_pages, .ref mg, .int m_steps, .ref wa, .ref co, .int m_reason, .int m_next, .ref mk, .int (nI (h + 1)), .ref mf, .ref mv, .ref mr, .int m_depth, .int m_variables, .int m_values])), (mk, .inl (cJ, 12096, .inr (.inl (vp_updL g h v))))] := hD
    have e9 : ([(ma, .inr (6, [.ref mb, .int m_written, .int m_pages, .ref mg, .int m_steps, .ref wa, .ref co, .int (mPr h m_reason), .int m_next, .ref mk, .int (nI (mPh h)), .ref mf, .ref mv, .ref mr, .int m_depth, .int m_variables, .int m_values])), (mk, .inl (cJ, 12096, .inr (.inl (mPg g h v))))] : va_W) = [(ma, .inr (6, [.ref mb, .int m_written, .int m_pages, .ref mg, .int m_steps, .ref wa, .ref co, .int m_reason, .int m_next, .ref mk, .int (nI (h + 1)), .ref mf, .ref mv, .ref mr, .int m_depth, .int m_variables, .int m_values])), (mk, .inl (cJ, 12096, .inr (.inl (vp_updL g h v))))] := by rw [show (mPr h m_reason : Int32) = m_reason from by first | (simp [mPh, mPr, mPg, c_1]; done) | (exfalso; simp_all; done), show (nI (mPh h) : Int32) = (nI (h + 1)) from by first | (simp [mPh, mPr, mPg, c_1]; done) | (exfalso; simp_all; done), show (mPg g h v) = (vp_updL g h v) from by first | (simp [mPh, mPr, mPg, c_1]; done) | (exfalso; simp_all; done)]
    rw [← e9] at hP hD
    exact ex_W (fun _ h => ex_mq h) (W.vret hx hb hr (fun t ht hW => ⟨⟨_, ⟨rfl, rfl⟩, by rw [ht]; exact hP, hD⟩, hS.F ht⟩) hS.2.2 d_Ma_push_37)
  · have c_1 : ¬ h < 12096 := fun q => c_1 ((nI_ltI (a := h) (b := 12096) (by omega) (by omega)).mpr q)
    refine lv_aload_n hx hb d_Ma_push_10 rfl (lv_at hl 0 rfl) ?_
    refine lv_bipush (v := 7) hx hb d_Ma_push_11 (by decide) ?_
    refine va_put (D := G) (ci := 6) (v := .int 7) (ty := .int) (C := R_Ma) (T := F_Ma) (N := 17) hx hb hts i_Ma t_Ma t_Ma_ok n_Ma hown hK hP hD hS 0 rfl rfl 7 (by decide) (hts _ m_168) (fun _ h9 => h9) rfl (by decide +kernel) rfl rfl (Nat.le_of_ble_eq_true rfl) d_Ma_push_13 (fun H locs hP hD hS => ?_)
    have hP : va_P G classes [(ma, .inr (6, [.ref mb, .int m_written, .int m_pages, .ref mg, .int m_steps, .ref wa, .ref co, .int 7, .int m_next, .ref mk, .int (nI h), .ref mf, .ref mv, .ref mr, .int m_depth, .int m_variables, .int m_values])), (mk, .inl (cJ, 12096, .inr (.inl g)))] H := hP
    have hD : va_D A [(ma, .inr (6, [.ref mb, .int m_written, .int m_pages, .ref mg, .int m_steps, .ref wa, .ref co, .int 7, .int m_next, .ref mk, .int (nI h), .ref mf, .ref mv, .ref mr, .int m_depth, .int m_variables, .int m_values])), (mk, .inl (cJ, 12096, .inr (.inl g)))] := hD
    have e9 : ([(ma, .inr (6, [.ref mb, .int m_written, .int m_pages, .ref mg, .int m_steps, .ref wa, .ref co, .int (mPr h m_reason), .int m_next, .ref mk, .int (nI (mPh h)), .ref mf, .ref mv, .ref mr, .int m_depth, .int m_variables, .int m_values])), (mk, .inl (cJ, 12096, .inr (.inl (mPg g h v))))] : va_W) = [(ma, .inr (6, [.ref mb, .int m_written, .int m_pages, .ref mg, .int m_steps, .ref wa, .ref co, .int 7, .int m_next, .ref mk, .int (nI h), .ref mf, .ref mv, .ref mr, .int m_depth, .int m_variables, .int m_values])), (mk, .inl (cJ, 12096, .inr (.inl g)))] := by rw [show (mPr h m_reason : Int32) = 7 from by first | (simp [mPh, mPr, mPg, c_1]; done) | (exfalso; simp_all; done), show (nI (mPh h) : Int32) = (nI h) from by first | (simp [mPh, mPr, mPg, c_1]; done) | (exfalso; simp_all; done), show (mPg g h v) = (g) from by first | (simp [mPh, mPr, mPg, c_1]; done) | (exfalso; simp_all; done)]
    rw [← e9] at hP hD
    exact ex_W (fun _ h => ex_mq h) (W.vret hx hb hr (fun t ht hW => ⟨⟨_, ⟨rfl, rfl⟩, by rw [ht]; exact hP, hD⟩, hS.F ht⟩) hS.2.2 d_Ma_push_16)
set_option maxHeartbeats 8000000 in
set_option maxRecDepth 100000 in
theorem c_Ma_pop (l : Launch) (htr : l.stackTraces = false) (G : va_G) (cB cI cJ cZ : ClassId) (ma : Nat) (wa : Nat) (co : Nat) (mb : Nat) (mg : Nat) (mk : Nat) (mf : Nat) (mv : Nat) (mr : Nat) (m_written : Int32) (m_pages : Int32) (m_steps : Int32) (m_reason : Int32) (m_next : Int32) (m_depth : Int32) (m_variables : Int32) (m_values : Int32) (h : Nat) (g : Nat → Int64) (hh : h + 1 ≤ 12096) (sz : Nat) : MetX l y_Ma_pop (wx y_Ma_pop b_Ma_pop 1 (some .long)) { frames := 0, cells := 0, slots := 0, locals := 0 } (XP G classes (xtys cB cI cJ cZ) xE [.ref ma] [(ma, .inr (6, [.ref mb, .int m_written, .int m_pages, .ref mg, .int m_steps, .ref wa, .ref co, .int m_reason, .int m_next, .ref mk, .int (nI (h + 1)), .ref mf, .ref mv, .ref mr, .int m_depth, .int m_variables, .int m_values])), (mk, .inl (cJ, 12096, .inr (.inl g)))] sz) (XQ G classes (va_A [(ma, .inr (6, [.ref mb, .int m_written, .int m_pages, .ref mg, .int m_steps, .ref wa, .ref co, .int m_reason, .int m_next, .ref mk, .int (nI (h + 1)), .ref mf, .ref mv, .ref mr, .int m_depth, .int m_variables, .int m_values])), (mk, .inl (cJ, 12096, .inr (.inl g)))] sz) (fun o w1 => o = .returned (some (.long (g h))) ∧ w1 = [(ma, .inr (6, [.ref mb, .int m_written, .int m_pages, .ref mg, .int m_steps, .ref wa, .ref co, .int m_reason, .int m_next, .ref mk, .int (nI (h)), .ref mf, .ref mv, .ref mr, .int m_depth, .int m_variables, .int m_values])), (mk, .inl (cJ, 12096, .inr (.inl g)))])) 0 0 (va_A [(ma, .inr (6, [.ref mb, .int m_written, .int m_pages, .ref mg, .int m_steps, .ref wa, .ref co, .int m_reason, .int m_next, .ref mk, .int (nI (h + 1)), .ref mf, .ref mv, .ref mr, .int m_depth, .int m_variables, .int m_values])), (mk, .inl (cJ, 12096, .inr (.inl g)))] sz) := by
  refine ex_ofW (cc := b_Ma_pop) (maxL := 1) (ret := (some .long)) (by decide) rfl ?_
  intro p e s m args below meth c s₁ B hml hno hv
  obtain ⟨rfl, hsz, hP, hK, hD0, hE⟩ := hv
  have hx := B.exec
  have hb := B.bytes
  have hr := B.returns
  have hts : ∀ w ∈ lw_good, w.before _ s = true := fun w h => atoms_spec (ws := wx y_Ma_pop b_Ma_pop 1 (some .long)) B.pre w (List.mem_cons_of_mem _ h)
  have hown : s.vm.findClass R_Ma = some m.cls := findClass_of_methodNamed B.named
  have hlocks := B.notSynchronized
  have htr9 : e.platform.stackTraces = false := by rw [B.admits.platform]; exact htr
  subst hsz
  have hNS := xx_nostat hP
  have hD := hD0.self (sz := s.heap.size)
  generalize hAe : va_A [(ma, .inr (6, [.ref mb, .int m_written, .int m_pages, .ref mg, .int m_steps, .ref wa, .ref co, .int m_reason, .int m_next, .ref mk, .int (nI (h + 1)), .ref mf, .ref mv, .ref mr, .int m_depth, .int m_variables, .int m_values])), (mk, .inl (cJ, 12096, .inr (.inl g)))] s.heap.size = A at hD hE hNS ⊢
  have hA : ∀ q : Nat, s.heap.size ≤ q → A q := fun q h => by rw [← hAe]; exact Or.inr h
  have hS : va_S A s.heap s.heap [] := va_S.rf
  have hl := lv_entry ([.ref ma]) (n := 1) (Nat.le_of_ble_eq_true rfl)
  rw [lg_entry_eq]
  generalize (lg_sl ([.ref ma]) ++ List.replicate (1 - (lg_sl ([.ref ma])).length) Slot.unset).toArray = ls at hl ⊢
  have hl : lv_has ls 1 [(0, .ref ma)] := hl
  refine lv_aload_n hx hb d_Ma_pop_0 rfl (lv_at hl 0 rfl) ?_
  refine lv_dup hx hb d_Ma_pop_1 rfl ?_
  refine va_get (D := G) (ci := 6) (v := .int (nI (h + 1))) (C := R_Ma) (T := F_Ma) (N := 17) hx hb hts i_Ma hown hK hP 0 rfl rfl 10 (by decide) (hts _ m_171) (fun _ h9 => h9) rfl d_Ma_pop_2 ?_
  refine lv_iconst (v := 1) hx hb d_Ma_pop_5 (by decide) ?_
  refine lv_isub hx hb d_Ma_pop_6 ?_
  refine lv_topi (fun x9 e_1 => ?_)
  obtain rfl : x9 = nI (h) := e_1.trans ((pk_sub (a := h + 1) (b := 1) (by omega)).trans (congrArg nI (by omega)))
  refine va_put (D := G) (ci := 6) (v := .int (nI (h))) (ty := .int) (C := R_Ma) (T := F_Ma) (N := 17) hx hb hts i_Ma t_Ma t_Ma_ok n_Ma hown hK hP hD hS 0 rfl rfl 10 (by decide) (hts _ m_171) (fun _ h9 => h9) rfl (by decide +kernel) rfl rfl (Nat.le_of_ble_eq_true rfl) d_Ma_pop_7 (fun H locs hP hD hS => ?_)
  have hP : va_P G classes [(ma, .inr (6, [.ref mb, .int m_written, .int m_pages, .ref mg, .int m_steps, .ref wa, .ref co, .int m_reason, .int m_next, .ref mk, .int (nI (h)), .ref mf, .ref mv, .ref mr, .int m_depth, .int m_variables, .int m_values])), (mk, .inl (cJ, 12096, .inr (.inl g)))] H := hP
  have hD : va_D A [(ma, .inr (6, [.ref mb, .int m_written, .int m_pages, .ref mg, .int m_steps, .ref wa, .ref co, .int m_reason, .int m_next, .ref mk, .int (nI (h)), .ref mf, .ref mv, .ref mr, .int m_depth, .int m_variables, .int m_values])), (mk, .inl (cJ, 12096, .inr (.inl g)))] := hD
  refine lv_aload_n hx hb d_Ma_pop_10 rfl (lv_at hl 0 rfl) ?_
  refine va_get (D := G) (ci := 6) (v := .ref mk) (C := R_Ma) (T := F_Ma) (N := 17) hx hb hts i_Ma hown hK hP 0 rfl rfl 9 (by decide) (hts _ m_170) (fun _ h9 => h9) rfl d_Ma_pop_11 ?_
  refine lv_aload_n hx hb d_Ma_pop_14 rfl (lv_at hl 0 rfl) ?_
  refine va_get (D := G) (ci := 6) (v := .int (nI (h))) (C := R_Ma) (T := F_Ma) (N := 17) hx hb hts i_Ma hown hK hP 0 rfl rfl 10 (by decide) (hts _ m_171) (fun _ h9 => h9) rfl d_Ma_pop_15 ?_
  refine va_lald hx hb hK hP 1 2 rfl rfl (vp_in_nI (show h < 12096 by omega) (by decide)) d_Ma_pop_18 ?_
  refine W.eq (g2 := F0 m 19 ls [.long (g h)]) (by rw [nI_clamp (show h < 2 ^ 31 by omega)] <;> rfl) ?_
  exact ex_W (fun _ h => ex_mq h) (W.lret (v := g h) hx hb hr (fun t ht hW => ⟨⟨_, ⟨rfl, rfl⟩, by rw [ht]; exact hP, hD⟩, hS.F ht⟩) hS.2.2 d_Ma_pop_19)
set_option maxHeartbeats 8000000 in
set_option maxRecDepth 100000 in
theorem c_Ma_select (l : Launch) (htr : l.stackTraces = false) (G : va_G) (cB cI cJ cZ : ClassId) (ma : Nat) (wa : Nat) (co : Nat) (mb : Nat) (mg : Nat) (mk : Nat) (mf : Nat) (mv : Nat) (mr : Nat) (m_written : Int32) (m_pages : Int32) (m_steps : Int32) (m_reason : Int32) (m_next : Int32) (m_depth : Int32) (m_variables : Int32) (m_values : Int32) (h : Nat) (g : Nat → Int64) (hh : h + 1 + 1 + 1 ≤ 12096) (sz : Nat) : MetX l y_Ma_select (wx y_Ma_select b_Ma_select 7 none) { frames := 1, cells := 0, slots := 0, locals := 22 } (XP G classes (xtys cB cI cJ cZ) xE [.ref ma] [(ma, .inr (6, [.ref mb, .int m_written, .int m_pages, .ref mg, .int m_steps, .ref wa, .ref co, .int m_reason, .int m_next, .ref mk, .int (nI (h + 1 + 1 + 1)), .ref mf, .ref mv, .ref mr, .int m_depth, .int m_variables, .int m_values])), (mk, .inl (cJ, 12096, .inr (.inl g)))] sz) (XQ G classes (va_A [(ma, .inr (6, [.ref mb, .int m_written, .int m_pages, .ref mg, .int m_steps, .ref wa, .ref co, .int m_reason, .int m_next, .ref mk, .int (nI (h + 1 + 1 + 1)), .ref mf, .ref mv, .ref mr, .int m_depth, .int m_variables, .int m_values])), (mk, .inl (cJ, 12096, .inr (.inl g)))] sz) (fun o w1 => o = .returned none ∧ w1 = [(ma, .inr (6, [.ref mb, .int m_written, .int m_pages, .ref mg, .int m_steps, .ref wa, .ref co, .int (mPr h m_reason), .int m_next, .ref mk, .int (nI (mPh h)), .ref mf, .ref mv, .ref mr, .int m_depth, .int m_variables, .int m_values])), (mk, .inl (cJ, 12096, .inr (.inl (mPg g h (mSel g h)))))])) 0 0 (va_A [(ma, .inr (6, [.ref mb, .int m_written, .int m_pages, .ref mg, .int m_steps, .ref wa, .ref co, .int m_reason, .int m_next, .ref mk, .int (nI (h + 1 + 1 + 1)), .ref mf, .ref mv, .ref mr, .int m_depth, .int m_variables, .int m_values])), (mk, .inl (cJ, 12096, .inr (.inl g)))] sz) := by
  refine ex_ofW (cc := b_Ma_select) (maxL := 7) (ret := none) (by decide) rfl ?_
  intro p e s m args below meth c s₁ B hml hno hv
  obtain ⟨rfl, hsz, hP, hK, hD0, hE⟩ := hv
  have hx := B.exec
  have hb := B.bytes
  have hr := B.returns
  have hts : ∀ w ∈ lw_good, w.before _ s = true := fun w h => atoms_spec (ws := wx y_Ma_select b_Ma_select 7 none) B.pre w (List.mem_cons_of_mem _ h)
  have hown : s.vm.findClass R_Ma = some m.cls := findClass_of_methodNamed B.named
  have hlocks := B.notSynchronized
  have htr9 : e.platform.stackTraces = false := by rw [B.admits.platform]; exact htr
  subst hsz
  have hNS := xx_nostat hP
  have hD := hD0.self (sz := s.heap.size)
  generalize hAe : va_A [(ma, .inr (6, [.ref mb, .int m_written, .int m_pages, .ref mg, .int m_steps, .ref wa, .ref co, .int m_reason, .int m_next, .ref mk, .int (nI (h + 1 + 1 + 1)), .ref mf, .ref mv, .ref mr, .int m_depth, .int m_variables, .int m_values])), (mk, .inl (cJ, 12096, .inr (.inl g)))] s.heap.size = A at hD hE hNS ⊢
  have hA : ∀ q : Nat, s.heap.size ≤ q → A q := fun q h => by rw [← hAe]; exact Or.inr h
  have hS : va_S A s.heap s.heap [] := va_S.rf
  have hl := lv_entry ([.ref ma]) (n := 7) (Nat.le_of_ble_eq_true rfl)
  rw [lg_entry_eq]
  generalize (lg_sl ([.ref ma]) ++ List.replicate (7 - (lg_sl ([.ref ma])).length) Slot.unset).toArray = ls at hl ⊢
  have hl : lv_has ls 7 [(0, .ref ma)] := hl
  refine lv_aload_n hx hb d_Ma_select_0 rfl (lv_at hl 0 rfl) ?_
  refine xx_callV (wc := [(ma, .inr (6, [.ref mb, .int m_written, .int m_pages, .ref mg, .int m_steps, .ref wa, .ref co, .int m_reason, .int m_next, .ref mk, .int (nI (h + 1 + 1 + 1)), .ref mf, .ref mv, .ref mr, .int m_depth, .int m_variables, .int m_values])), (mk, .inl (cJ, 12096, .inr (.inl g)))]) (wr := []) (As := []) (rest := []) ⟨hx, hb, hml, hown, hts⟩ xE_st hK hE hA (c_Ma_pop l htr G cB cI cJ cZ ma wa co mb mg mk mf mv mr m_written m_pages m_steps m_reason m_next m_depth m_variables m_values (h + 1 + 1) g (by omega) _) (xw_V 0 hts m_970 m_972 ms_Ma_pop m_7 m_973 (by decide +kernel) ⟨(Nat.le_of_ble_eq_true rfl), (Nat.le_of_ble_eq_true rfl)⟩) hP hD hS [0, 1] [] rfl rfl (by decide) (by decide) (by decide) 0 6 rfl rfl rfl rfl hl.1 rfl (Nat.le_of_ble_eq_true rfl) d_Ma_select_1 ⟨(Nat.le_of_ble_eq_true rfl), (Nat.le_of_ble_eq_true rfl)⟩ (fun v9 w9 H locs hp hP hD hS => ?_) (fun x9 w9 H9 l9 hp _ _ _ => absurd hp (by rintro ⟨ho, -⟩; cases ho))
  obtain ⟨ho, rfl⟩ := hp
  cases ho
  have hP : va_P G classes [(ma, .inr (6, [.ref mb, .int m_written, .int m_pages, .ref mg, .int m_steps, .ref wa, .ref co, .int m_reason, .int m_next, .ref mk, .int (nI ((h + 1 + 1))), .ref mf, .ref mv, .ref mr, .int m_depth, .int m_variables, .int m_values])), (mk, .inl (cJ, 12096, .inr (.inl g)))] H := hP
  have hD : va_D A [(ma, .inr (6, [.ref mb, .int m_written, .int m_pages, .ref mg, .int m_steps, .ref wa, .ref co, .int m_reason, .int m_next, .ref mk, .int (nI ((h + 1 + 1))), .ref mf, .ref mv, .ref mr, .int m_depth, .int m_variables, .int m_values])), (mk, .inl (cJ, 12096, .inr (.inl g)))] := hD
  refine lv_lstore_n (lv' := [(1, .long (g (h + 1 + 1))), (0, .ref ma)]) hx hb d_Ma_select_4 rfl hl (by decide) rfl (fun ls hl => ?_)
  refine lv_aload_n hx hb d_Ma_select_5 rfl (lv_at hl 1 rfl) ?_
  refine xx_callV (wc := [(ma, .inr (6, [.ref mb, .int m_written, .int m_pages, .ref mg, .int m_steps, .ref wa, .ref co, .int m_reason, .int m_next, .ref mk, .int (nI ((h + 1 + 1))), .ref mf, .ref mv, .ref mr, .int m_depth, .int m_variables, .int m_values])), (mk, .inl (cJ, 12096, .inr (.inl g)))]) (wr := []) (As := []) (rest := []) ⟨hx, hb, hml, hown, hts⟩ xE_st hK hE hA (c_Ma_pop l htr G cB cI cJ cZ ma wa co mb mg mk mf mv mr m_written m_pages m_steps m_reason m_next m_depth m_variables m_values (h + 1) g (by omega) _) (xw_V 0 hts m_970 m_972 ms_Ma_pop m_7 m_973 (by decide +kernel) ⟨(Nat.le_of_ble_eq_true rfl), (Nat.le_of_ble_eq_true rfl)⟩) hP hD hS [0, 1] [] rfl rfl (by decide) (by decide) (by decide) 0 6 rfl rfl rfl rfl hl.1 rfl (Nat.le_of_ble_eq_true rfl) d_Ma_select_6 ⟨(Nat.le_of_ble_eq_true rfl), (Nat.le_of_ble_eq_true rfl)⟩ (fun v9 w9 H locs hp hP hD hS => ?_) (fun x9 w9 H9 l9 hp _ _ _ => absurd hp (by rintro ⟨ho, -⟩; cases ho))
  obtain ⟨ho, rfl⟩ := hp
  cases ho
  have hP : va_P G classes [(ma, .inr (6, [.ref mb, .int m_written, .int m_pages, .ref mg, .int m_steps, .ref wa, .ref co, .int m_reason, .int m_next, .ref mk, .int (nI ((h + 1))), .ref mf, .ref mv, .ref mr, .int m_depth, .int m_variables, .int m_values])), (mk, .inl (cJ, 12096, .inr (.inl g)))] H := hP
  have hD : va_D A [(ma, .inr (6, [.ref mb, .int m_written, .int m_pages, .ref mg, .int m_steps, .ref wa, .ref co, .int m_reason, .int m_next, .ref mk, .int (nI ((h + 1))), .ref mf, .ref mv, .ref mr, .int m_depth, .int m_variables, .int m_values])), (mk, .inl (cJ, 12096, .inr (.inl g)))] := hD
  refine lv_lstore_n (lv' := [(3, .long (g (h + 1))), (1, .long (g (h + 1 + 1))), (0, .ref ma)]) hx hb d_Ma_select_9 rfl hl (by decide) rfl (fun ls hl => ?_)
  refine lv_aload_n hx hb d_Ma_select_10 rfl (lv_at hl 2 rfl) ?_
  refine xx_callV (wc := [(ma, .inr (6, [.ref mb, .int m_written, .int m_pages, .ref mg, .int m_steps, .ref wa, .ref co, .int m_reason, .int m_next, .ref mk, .int (nI ((h + 1))), .ref mf, .ref mv, .ref mr, .int m_depth, .int m_variables, .int m_values])), (mk, .inl (cJ, 12096, .inr (.inl g)))]) (wr := []) (As := []) (rest := []) ⟨hx, hb, hml, hown, hts⟩ xE_st hK hE hA (c_Ma_pop l htr G cB cI cJ cZ ma wa co mb mg mk mf mv mr m_written m_pages m_steps m_reason m_next m_depth m_variables m_values h g (by omega) _) (xw_V 0 hts m_970 m_972 ms_Ma_pop m_7 m_973 (by decide +kernel) ⟨(Nat.le_of_ble_eq_true rfl), (Nat.le_of_ble_eq_true rfl)⟩) hP hD hS [0, 1] [] rfl rfl (by decide) (by decide) (by decide) 0 6 rfl rfl rfl rfl hl.1 rfl (Nat.le_of_ble_eq_true rfl) d_Ma_select_11 ⟨(Nat.le_of_ble_eq_true rfl), (Nat.le_of_ble_eq_true rfl)⟩ (fun v9 w9 H locs hp hP hD hS => ?_) (fun x9 w9 H9 l9 hp _ _ _ => absurd hp (by rintro ⟨ho, -⟩; cases ho))
  obtain ⟨ho, rfl⟩ := hp
  cases ho
  have hP : va_P G classes [(ma, .inr (6, [.ref mb, .int m_written, .int m_pages, .ref mg, .int m_steps, .ref wa, .ref co, .int m_reason, .int m_next, .ref mk, .int (nI (h)), .ref mf, .ref mv, .ref mr, .int m_depth, .int m_variables, .int m_values])), (mk, .inl (cJ, 12096, .inr (.inl g)))] H := hP
  have hD : va_D A [(ma, .inr (6, [.ref mb, .int m_written, .int m_pages, .ref mg, .int m_steps, .ref wa, .ref co, .int m_reason, .int m_next, .ref mk, .int (nI (h)), .ref mf, .ref mv, .ref mr, .int m_depth, .int m_variables, .int m_values])), (mk, .inl (cJ, 12096, .inr (.inl g)))] := hD
  refine lv_lstore (lv' := [(5, .long (g h)), (3, .long (g (h + 1))), (1, .long (g (h + 1 + 1))), (0, .ref ma)]) hx hb d_Ma_select_14 hl (by decide) rfl (fun ls hl => ?_)
  refine lv_aload_n hx hb d_Ma_select_16 rfl (lv_at hl 3 rfl) ?_
  refine lv_lload_n hx hb d_Ma_select_17 rfl (lv_at hl 2 rfl) ?_
  refine lv_lconst (v := 0) hx hb d_Ma_select_18 (by decide) ?_
  refine W.lcmp hx hb d_Ma_select_19 ?_
  refine lv_if_eq (tgt := 28) hx hb d_Ma_select_20 (by decide) (fun c_1 => ?_) (fun c_1 => ?_)
  · refine lv_lload_n hx hb d_Ma_select_28 rfl (lv_at hl 1 rfl) ?_
    refine W.eq (g2 := F0 m 29 ls [.long (mSel g h), .ref ma]) (by unfold mSel; simp [c_1]) ?_
    refine xx_callV (wc := [(ma, .inr (6, [.ref mb, .int m_written, .int m_pages, .ref mg, .int m_steps, .ref wa, .ref co, .int m_reason, .int m_next, .ref mk, .int (nI (h)), .ref mf, .ref mv, .ref mr, .int m_depth, .int m_variables, .int m_values])), (mk, .inl (cJ, 12096, .inr (.inl g)))]) (wr := []) (As := [.long (mSel g h)]) (rest := []) ⟨hx, hb, hml, hown, hts⟩ xE_st hK hE hA (c_Ma_push l htr G cB cI cJ cZ ma wa co mb mg mk mf mv mr m_written m_pages m_steps m_reason m_next m_depth m_variables m_values h g (mSel g h) (by omega) _) (xw_V 1 hts m_952 m_954 ms_Ma_push m_7 m_955 (by decide +kernel) ⟨(Nat.le_of_ble_eq_true rfl), (Nat.le_of_ble_eq_true rfl)⟩) hP hD hS [0, 1] [] rfl rfl (by decide) (by decide) (by decide) 0 6 rfl rfl rfl rfl hl.1 rfl (Nat.le_of_ble_eq_true rfl) d_Ma_select_29 ⟨(Nat.le_of_ble_eq_true rfl), (Nat.le_of_ble_eq_true rfl)⟩ (fun v9 w9 H locs hp hP hD hS => ?_) (fun x9 w9 H9 l9 hp _ _ _ => absurd hp (by rintro ⟨ho, -⟩; cases ho))
    obtain ⟨ho, rfl⟩ := hp
    cases ho
    have hP : va_P G classes [(ma, .inr (6, [.ref mb, .int m_written, .int m_pages, .ref mg, .int m_steps, .ref wa, .ref co, .int (mPr h m_reason), .int m_next, .ref mk, .int (nI (mPh h)), .ref mf, .ref mv, .ref mr, .int m_depth, .int m_variables, .int m_values])), (mk, .inl (cJ, 12096, .inr (.inl (mPg g h (mSel g h)))))] H := hP
    have hD : va_D A [(ma, .inr (6, [.ref mb, .int m_written, .int m_pages, .ref mg, .int m_steps, .ref wa, .ref co, .int (mPr h m_reason), .int m_next, .ref mk, .int (nI (mPh h)), .ref mf, .ref mv, .ref mr, .int m_depth, .int m_variables, .int m_values])), (mk, .inl (cJ, 12096, .inr (.inl (mPg g h (mSel g h)))))] := hD
    exact ex_W (fun _ h => ex_mq h) (W.vret hx hb hr (fun t ht hW => ⟨⟨_, ⟨rfl, rfl⟩, by rw [ht]; exact hP, hD⟩, hS.F ht⟩) hS.2.2 d_Ma_select_32)
  · refine lv_lload hx hb d_Ma_select_23 (lv_at hl 0 rfl) ?_
    refine lv_goto (tgt := 29) hx hb d_Ma_select_25 (by decide) ?_
    refine W.eq (g2 := F0 m 29 ls [.long (mSel g h), .ref ma]) (by unfold mSel; simp [c_1]) ?_
    refine xx_callV (wc := [(ma, .inr (6, [.ref mb, .int m_written, .int m_pages, .ref mg, .int m_steps, .ref wa, .ref co, .int m_reason, .int m_next, .ref mk, .int (nI (h)), .ref mf, .ref mv, .ref mr, .int m_depth, .int m_variables, .int m_values])), (mk, .inl (cJ, 12096, .inr (.inl g)))]) (wr := []) (As := [.long (mSel g h)]) (rest := []) ⟨hx, hb, hml, hown, hts⟩ xE_st hK hE hA (c_Ma_push l htr G cB cI cJ cZ ma wa co mb mg mk mf mv mr m_written m_pages m_steps m_reason m_next m_depth m_variables m_values h g (mSel g h) (by omega) _) (xw_V 1 hts m_952 m_954 ms_Ma_push m_7 m_955 (by decide +kernel) ⟨(Nat.le_of_ble_eq_true rfl), (Nat.le_of_ble_eq_true rfl)⟩) hP hD hS [0, 1] [] rfl rfl (by decide) (by decide) (by decide) 0 6 rfl rfl rfl rfl hl.1 rfl (Nat.le_of_ble_eq_true rfl) d_Ma_select_29 ⟨(Nat.le_of_ble_eq_true rfl), (Nat.le_of_ble_eq_true rfl)⟩ (fun v9 w9 H locs hp hP hD hS => ?_) (fun x9 w9 H9 l9 hp _ _ _ => absurd hp (by rintro ⟨ho, -⟩; cases ho))
    obtain ⟨ho, rfl⟩ := hp
    cases ho
    have hP : va_P G classes [(ma, .inr (6, [.ref mb, .int m_written, .int m_pages, .ref mg, .int m_steps, .ref wa, .ref co, .int (mPr h m_reason), .int m_next, .ref mk, .int (nI (mPh h)), .ref mf, .ref mv, .ref mr, .int m_depth, .int m_variables, .int m_values])), (mk, .inl (cJ, 12096, .inr (.inl (mPg g h (mSel g h)))))] H := hP
    have hD : va_D A [(ma, .inr (6, [.ref mb, .int m_written, .int m_pages, .ref mg, .int m_steps, .ref wa, .ref co, .int (mPr h m_reason), .int m_next, .ref mk, .int (nI (mPh h)), .ref mf, .ref mv, .ref mr, .int m_depth, .int m_variables, .int m_values])), (mk, .inl (cJ, 12096, .inr (.inl (mPg g h (mSel g h)))))] := hD
    exact ex_W (fun _ h => ex_mq h) (W.vret hx hb hr (fun t ht hW => ⟨⟨_, ⟨rfl, rfl⟩, by rw [ht]; exact hP, hD⟩, hS.F ht⟩) hS.2.2 d_Ma_select_32)
