/-- the first function among r exports from x on whose name is the first n bytes of f; -1 if there is none -/
def eFind (kd ix p f : Nat → Int32) (nl : Nat → Nat) (n : Nat) : Nat → Nat → Int32
  | 0, _ => -1
  | r + 1, x => if kd x = 0 then (if eNamed p f (nl x) n (x * 30) 0 = 0 then eFind kd ix p f nl n r (x + 1) else ix x) else eFind kd ix p f nl n r (x + 1)
abbrev b_Ex_functionNamed : ByteArray := prog_6_method_2_code
def y_Ex_functionNamed : MethodName := ⟨R_Ex, "functionNamed", "([BI)I"⟩
theorem d_Ex_functionNamed_0 : decode b_Ex_functionNamed 0 = .ok (.iconst 0, 1) := by decide +kernel
theorem d_Ex_functionNamed_1 : decode b_Ex_functionNamed 1 = .ok (.istore_n 3, 1) := by decide +kernel
theorem d_Ex_functionNamed_2 : decode b_Ex_functionNamed 2 = .ok (.iload_n 3, 1) := by decide +kernel
theorem d_Ex_functionNamed_3 : decode b_Ex_functionNamed 3 = .ok (.aload_n 0, 1) := by decide +kernel
theorem d_Ex_functionNamed_4 : decode b_Ex_functionNamed 4 = .ok (.getfield 23, 3) := by decide +kernel
theorem d_Ex_functionNamed_7 : decode b_Ex_functionNamed 7 = .ok (.if_icmp .ge 36, 3) := by decide +kernel
theorem d_Ex_functionNamed_10 : decode b_Ex_functionNamed 10 = .ok (.aload_n 0, 1) := by decide +kernel
theorem d_Ex_functionNamed_11 : decode b_Ex_functionNamed 11 = .ok (.getfield 9, 3) := by decide +kernel
theorem d_Ex_functionNamed_14 : decode b_Ex_functionNamed 14 = .ok (.iload_n 3, 1) := by decide +kernel
theorem d_Ex_functionNamed_15 : decode b_Ex_functionNamed 15 = .ok (.iaload, 1) := by decide +kernel
theorem d_Ex_functionNamed_16 : decode b_Ex_functionNamed 16 = .ok (.ifCond .ne 21, 3) := by decide +kernel
theorem d_Ex_functionNamed_19 : decode b_Ex_functionNamed 19 = .ok (.aload_n 0, 1) := by decide +kernel
theorem d_Ex_functionNamed_20 : decode b_Ex_functionNamed 20 = .ok (.iload_n 3, 1) := by decide +kernel
theorem d_Ex_functionNamed_21 : decode b_Ex_functionNamed 21 = .ok (.aload_n 1, 1) := by decide +kernel
theorem d_Ex_functionNamed_22 : decode b_Ex_functionNamed 22 = .ok (.iconst 0, 1) := by decide +kernel
theorem d_Ex_functionNamed_23 : decode b_Ex_functionNamed 23 = .ok (.iload_n 2, 1) := by decide +kernel
theorem d_Ex_functionNamed_24 : decode b_Ex_functionNamed 24 = .ok (.invokevirtual 27, 3) := by decide +kernel
theorem d_Ex_functionNamed_27 : decode b_Ex_functionNamed 27 = .ok (.ifCond .eq 10, 3) := by decide +kernel
theorem d_Ex_functionNamed_30 : decode b_Ex_functionNamed 30 = .ok (.aload_n 0, 1) := by decide +kernel
theorem d_Ex_functionNamed_31 : decode b_Ex_functionNamed 31 = .ok (.getfield 13, 3) := by decide +kernel
theorem d_Ex_functionNamed_34 : decode b_Ex_functionNamed 34 = .ok (.iload_n 3, 1) := by decide +kernel
theorem d_Ex_functionNamed_35 : decode b_Ex_functionNamed 35 = .ok (.iaload, 1) := by decide +kernel
theorem d_Ex_functionNamed_36 : decode b_Ex_functionNamed 36 = .ok (.ireturn, 1) := by decide +kernel
theorem d_Ex_functionNamed_37 : decode b_Ex_functionNamed 37 = .ok (.iinc 3 1, 3) := by decide +kernel
theorem d_Ex_functionNamed_40 : decode b_Ex_functionNamed 40 = .ok (.goto (-38), 3) := by decide +kernel
theorem d_Ex_functionNamed_43 : decode b_Ex_functionNamed 43 = .ok (.iconst (-1), 1) := by decide +kernel
theorem d_Ex_functionNamed_44 : decode b_Ex_functionNamed 44 = .ok (.ireturn, 1) := by decide +kernel
theorem m_225 : Cond.fieldLink R_Ex 23 "WaferRunner$Exports" "size" "I" ∈ lw_good := lw_in (List.mem_append_right _ (List.mem_of_getElem? (i := 225) (by decide +kernel))) (by decide +kernel)
theorem m_463 : Cond.code y_Ex_isNamed b_Ex_isNamed 6 (some .boolean) ∈ lw_good := lw_in (List.mem_append_right _ (List.mem_of_getElem? (i := 463) (by decide +kernel))) (by decide +kernel)
theorem m_460 : Cond.methodLink R_Ex 27 y_Ex_isNamed ∈ lw_good := lw_in (List.mem_append_right _ (List.mem_of_getElem? (i := 460) (by decide +kernel))) (by decide +kernel)
theorem m_462 : Cond.instanceMethod y_Ex_isNamed ∈ lw_good := lw_in (List.mem_append_right _ (List.mem_of_getElem? (i := 462) (by decide +kernel))) (by decide +kernel)
theorem ms_Ex_isNamed : Cond.selects R_Ex y_Ex_isNamed y_Ex_isNamed ∈ lw_good := lw_in (by decide +kernel) (by decide +kernel)
set_option maxHeartbeats 8000000 in
set_option maxRecDepth 100000 in
theorem c_Ex_functionNamed (l : Launch) (htr : l.stackTraces = false) (G : va_G) (cB cI cJ cZ : ClassId) (ex : Nat) (ex1 : Nat) (ex2 : Nat) (ex3 : Nat) (ex4 : Nat) (tp : Nat) (x1 : Nat → Int32) (x2 : Nat → Int32) (x3 : Nat → Int32) (x4 : Nat → Int32) (f : Nat → Int32) (nl : Nat → Nat) (n : Nat) (z : Nat) (hz9 : z ≤ 40) (hn2 : n ≤ 2000) (hq : ∀ x, x < z → x3 x = nI (nl x) ∧ nl x ≤ 30) (sz : Nat) : MetX l y_Ex_functionNamed (wx y_Ex_functionNamed b_Ex_functionNamed 4 (some .int)) { frames := 1, cells := 0, slots := 0, locals := 25 } (XP G classes (xtys cB cI cJ cZ) xE [.ref ex, .ref tp, .int (nI n)] [(ex, .inr (8, [.int (nI z), .ref ex1, .ref ex2, .ref ex3, .ref ex4])), (ex1, .inl (cI, 40, .inl x1)), (ex2, .inl (cI, 40, .inl x2)), (ex3, .inl (cI, 40, .inl x3)), (ex4, .inl (cB, 1200, .inl x4)), (tp, .inl (cB, 2000, .inl f))] sz) (XQ G classes (va_A [(ex, .inr (8, [.int (nI z), .ref ex1, .ref ex2, .ref ex3, .ref ex4])), (ex1, .inl (cI, 40, .inl x1)), (ex2, .inl (cI, 40, .inl x2)), (ex3, .inl (cI, 40, .inl x3)), (ex4, .inl (cB, 1200, .inl x4)), (tp, .inl (cB, 2000, .inl f))] sz) (fun o w1 => o = .returned (some (.int (eFind x1 x2 x4 f nl n z 0))) ∧ w1 = [(ex, .inr (8, [.int (nI z), .ref ex1, .ref ex2, .ref ex3, .ref ex4])), (ex1, .inl (cI, 40, .inl x1)), (ex2, .inl (cI, 40, .inl x2)), (ex3, .inl (cI, 40, .inl x3)), (ex4, .inl (cB, 1200, .inl x4)), (tp, .inl (cB, 2000, .inl f))])) 0 0 (va_A [(ex, .inr (8, [.int (nI z), .ref ex1, .ref ex2, .ref ex3, .ref ex4])), (ex1, .inl (cI, 40, .inl x1)), (ex2, .inl (cI, 40, .inl x2)), (ex3, .inl (cI, 40, .inl x3)), (ex4, .inl (cB, 1200, .inl x4)), (tp, .inl (cB, 2000, .inl f))] sz) := by
  refine ex_ofW (cc := b_Ex_functionNamed) (maxL := 4) (ret := (some .int)) (by decide) rfl ?_
  intro p e s m args below meth c s₁ B hml hno hv
  obtain ⟨rfl, hsz, hP, hK, hD0, hE⟩ := hv
  have hx := B.exec
  have hb := B.bytes
  have hr := B.returns
  have hts : ∀ w ∈ lw_good, w.before _ s = true := fun w h => atoms_spec (ws := wx y_Ex_functionNamed b_Ex_functionNamed 4 (some .int)) B.pre w (List.mem_cons_of_mem _ h)
  have hown : s.vm.findClass R_Ex = some m.cls := findClass_of_methodNamed B.named
  have hlocks := B.notSynchronized
  have htr9 : e.platform.stackTraces = false := by rw [B.admits.platform]; exact htr
  subst hsz
  have hNS := xx_nostat hP
  have hD := hD0.self (sz := s.heap.size)
  generalize hAe : va_A [(ex, .inr (8, [.int (nI z), .ref ex1, .ref ex2, .ref ex3, .ref ex4])), (ex1, .inl (cI, 40, .inl x1)), (ex2, .inl (cI, 40, .inl x2)), (ex3, .inl (cI, 40, .inl x3)), (ex4, .inl (cB, 1200, .inl x4)), (tp, .inl (cB, 2000, .inl f))] s.heap.size = A at hD hE hNS ⊢
  have hA : ∀ q : Nat, s.heap.size ≤ q → A q := fun q h => by rw [← hAe]; exact Or.inr h
  have hS : va_S A s.heap s.heap [] := va_S.rf
  have hl := lv_entry ([.ref ex, .ref tp, .int (nI n)]) (n := 4) (Nat.le_of_ble_eq_true rfl)
  rw [lg_entry_eq]
  generalize (lg_sl ([.ref ex, .ref tp, .int (nI n)]) ++ List.replicate (4 - (lg_sl ([.ref ex, .ref tp, .int (nI n)])).length) Slot.unset).toArray = ls at hl ⊢
  have hl : lv_has ls 4 [(0, .ref ex), (1, .ref tp), (2, .int (nI n))] := hl
  refine lv_iconst (v := 0) hx hb d_Ex_functionNamed_0 (by decide) ?_
  refine lv_istore_n (lv' := [(3, .int 0), (0, .ref ex), (1, .ref tp), (2, .int (nI n))]) hx hb d_Ex_functionNamed_1 rfl hl (by decide) rfl (fun ls hl => ?_)
  have loop_2 : ∀ (n9 : Nat) (x : Nat), x + n9 = z + 1 → x ≤ z → eFind x1 x2 x4 f nl n z 0 = eFind x1 x2 x4 f nl n (n9 - 1) x →  ∀ (H : Heap) (locs : List Loc), va_P G classes [(ex, .inr (8, [.int (nI z), .ref ex1, .ref ex2, .ref ex3, .ref ex4])), (ex1, .inl (cI, 40, .inl x1)), (ex2, .inl (cI, 40, .inl x2)), (ex3, .inl (cI, 40, .inl x3)), (ex4, .inl (cB, 1200, .inl x4)), (tp, .inl (cB, 2000, .inl f))] H → va_D A [(ex, .inr (8, [.int (nI z), .ref ex1, .ref ex2, .ref ex3, .ref ex4])), (ex1, .inl (cI, 40, .inl x1)), (ex2, .inl (cI, 40, .inl x2)), (ex3, .inl (cI, 40, .inl x3)), (ex4, .inl (cB, 1200, .inl x4)), (tp, .inl (cB, 2000, .inl f))] → va_S A s.heap H locs → ∀ (ls : Array Slot), lv_has ls 4 [(0, .ref ex), (1, .ref tp), (2, .int (nI n)), (3, .int (nI x))] → W p l e (headSpec (wx y_Ex_functionNamed b_Ex_functionNamed 4 (some .int)) { frames := 1, cells := 0, slots := 0, locals := 25 }).room s m ([.ref ex, .ref tp, .int (nI n)] : List Value).toArray below meth c H locs 0 0 (MX below (XQ G classes A (fun o w1 => o = .returned (some (.int (eFind x1 x2 x4 f nl n z 0))) ∧ w1 = [(ex, .inr (8, [.int (nI z), .ref ex1, .ref ex2, .ref ex3, .ref ex4])), (ex1, .inl (cI, 40, .inl x1)), (ex2, .inl (cI, 40, .inl x2)), (ex3, .inl (cI, 40, .inl x3)), (ex4, .inl (cB, 1200, .inl x4)), (tp, .inl (cB, 2000, .inl f))])) ([.ref ex, .ref tp, .int (nI n)] : List Value).toArray s 0 0 A) (F0 m 2 ls []) := by
    intro n9
    induction n9 with
    | zero => intro x hk hk2 hf; exact absurd hk2 (by omega)
    | succ n9 ih_2 =>
      intro x hk hk2 hf H locs hP hD hS ls hl
      refine lv_iload_n hx hb d_Ex_functionNamed_2 rfl (lv_at hl 3 rfl) ?_
      refine lv_aload_n hx hb d_Ex_functionNamed_3 rfl (lv_at hl 0 rfl) ?_
      refine va_get (D := G) (ci := 8) (v := .int (nI z)) (C := R_Ex) (T := F_Ex) (N := 5) hx hb hts i_Ex hown hK hP 0 rfl rfl 0 (by decide) (hts _ m_225) (fun _ h9 => h9) rfl d_Ex_functionNamed_4 ?_
      refine lv_icmp_ge (tgt := 43) hx hb d_Ex_functionNamed_7 (by decide) (fun c_1 => ?_) (fun c_1 => ?_)
      · have c_1 : z ≤ x := (nI_leI (a := z) (b := x) (by omega) (by omega)).mp c_1
        have hz : n9 = 0 := by omega
        subst hz
        refine lv_iconst (v := (-1)) hx hb d_Ex_functionNamed_43 (by decide) ?_
        exact ex_W (fun _ h => ex_mq h) (W.iret (v := -1) hx hb hr (fun t ht hW => ⟨⟨_, ⟨congrArg (fun z => Outcome.returned (some (Value.int z))) (by rw [hf]; simp [eFind]), rfl⟩, by rw [ht]; exact hP, hD⟩, hS.F ht⟩) hS.2.2 d_Ex_functionNamed_44)
      · have c_1 : ¬ z ≤ x := fun q => c_1 ((nI_leI (a := z) (b := x) (by omega) (by omega)).mpr q)
        obtain ⟨j, rfl⟩ : ∃ j, n9 = j + 1 := ⟨n9 - 1, by omega⟩
        refine lv_aload_n hx hb d_Ex_functionNamed_10 rfl (lv_at hl 0 rfl) ?_
        refine va_get (D := G) (ci := 8) (v := .ref ex1) (C := R_Ex) (T := F_Ex) (N := 5) hx hb hts i_Ex hown hK hP 0 rfl rfl 1 (by decide) (hts _ m_229) (fun _ h9 => h9) rfl d_Ex_functionNamed_11 ?_
        refine lv_iload_n hx hb d_Ex_functionNamed_14 rfl (lv_at hl 3 rfl) ?_
        refine va_iald hx hb hK hP 1 1 rfl rfl (vp_in_nI (show x < 40 by omega) (by decide)) d_Ex_functionNamed_15 ?_
        refine W.eq (g2 := F0 m 16 ls [.int (x1 x)]) (by rw [nI_clamp (show x < 2 ^ 31 by omega)] <;> rfl) ?_
        refine lv_if_ne (tgt := 37) hx hb d_Ex_functionNamed_16 (by decide) (fun c_2 => ?_) (fun c_2 => ?_)
        · refine lv_iinc (v := (nI (x + 1))) (lv' := [(3, .int (nI (x + 1))), (0, .ref ex), (1, .ref tp), (2, .int (nI n))]) hx hb d_Ex_functionNamed_37 hl (k := 3) rfl (by first | rfl | decide | exact nI_add _ _) (by decide) rfl (fun ls hl => ?_)
          refine lv_goto (tgt := 2) hx hb d_Ex_functionNamed_40 (by decide) ?_
          exact ih_2 (x + 1) (by omega) (by omega) (by rw [hf]; simp [eFind, c_2]) _ _ hP hD hS _ (lv_sub hl [1, 2, 3, 0] rfl)
        · refine lv_aload_n hx hb d_Ex_functionNamed_19 rfl (lv_at hl 0 rfl) ?_
          refine lv_iload_n hx hb d_Ex_functionNamed_20 rfl (lv_at hl 3 rfl) ?_
          refine lv_aload_n hx hb d_Ex_functionNamed_21 rfl (lv_at hl 1 rfl) ?_
          refine lv_iconst (v := 0) hx hb d_Ex_functionNamed_22 (by decide) ?_
          refine lv_iload_n hx hb d_Ex_functionNamed_23 rfl (lv_at hl 2 rfl) ?_
          refine xx_callV (wc := [(ex, .inr (8, [.int (nI z), .ref ex1, .ref ex2, .ref ex3, .ref ex4])), (ex3, .inl (cI, 40, .inl x3)), (ex4, .inl (cB, 1200, .inl x4)), (tp, .inl (cB, 2000, .inl f))]) (wr := [(ex1, .inl (cI, 40, .inl x1)), (ex2, .inl (cI, 40, .inl x2))]) (As := [.int (nI x), .ref tp, .int 0, .int (nI n)]) (rest := []) ⟨hx, hb, hml, hown, hts⟩ xE_st hK hE hA (c_Ex_isNamed l htr G cB cI cJ cZ ex ex1 ex2 ex3 ex4 (nI z) tp x3 x4 f x n 0 (nl x) (by omega) (hq x (by omega)).2 (by omega) hn2 (hq x (by omega)).1 _) (xw_V 4 hts m_460 m_462 ms_Ex_isNamed m_9 m_463 (by decide +kernel) ⟨(Nat.le_of_ble_eq_true rfl), (Nat.le_of_ble_eq_true rfl)⟩) hP hD hS [0, 3, 4, 5] [1, 2] rfl rfl (by decide) (by decide) (by decide) 0 8 rfl rfl rfl rfl hl.1 rfl (Nat.le_of_ble_eq_true rfl) d_Ex_functionNamed_24 ⟨(Nat.le_of_ble_eq_true rfl), (Nat.le_of_ble_eq_true rfl)⟩ (fun v9 w9 H locs hp hP hD hS => ?_) (fun x9 w9 H9 l9 hp _ _ _ => absurd hp (by rintro ⟨ho, -⟩; cases ho))
          obtain ⟨ho, rfl⟩ := hp
          cases ho
          have hP : va_P G classes [(ex1, .inl (cI, 40, .inl x1)), (ex2, .inl (cI, 40, .inl x2)), (ex, .inr (8, [.int (nI z), .ref ex1, .ref ex2, .ref ex3, .ref ex4])), (ex3, .inl (cI, 40, .inl x3)), (ex4, .inl (cB, 1200, .inl x4)), (tp, .inl (cB, 2000, .inl f))] H := hP
          have hD : va_D A [(ex1, .inl (cI, 40, .inl x1)), (ex2, .inl (cI, 40, .inl x2)), (ex, .inr (8, [.int (nI z), .ref ex1, .ref ex2, .ref ex3, .ref ex4])), (ex3, .inl (cI, 40, .inl x3)), (ex4, .inl (cB, 1200, .inl x4)), (tp, .inl (cB, 2000, .inl f))] := hD
          refine lv_if_eq (tgt := 37) hx hb d_Ex_functionNamed_27 (by decide) (fun c_3 => ?_) (fun c_3 => ?_)
          · refine lv_iinc (v := (nI (x + 1))) (lv' := [(3, .int (nI (x + 1))), (0, .ref ex), (1, .ref tp), (2, .int (nI n))]) hx hb d_Ex_functionNamed_37 hl (k := 3) rfl (by first | rfl | decide | exact nI_add _ _) (by decide) rfl (fun ls hl => ?_)
            refine lv_goto (tgt := 2) hx hb d_Ex_functionNamed_40 (by decide) ?_
            exact ih_2 (x + 1) (by omega) (by omega) (by rw [hf]; simp [eFind, c_2, c_3]) _ _ (hP.sub [2, 0, 1, 3, 4, 5] rfl) (hD.sub [2, 0, 1, 3, 4, 5] (by decide) rfl) hS _ (lv_sub hl [1, 2, 3, 0] rfl)
          · refine lv_aload_n hx hb d_Ex_functionNamed_30 rfl (lv_at hl 0 rfl) ?_
            refine va_get (D := G) (ci := 8) (v := .ref ex2) (C := R_Ex) (T := F_Ex) (N := 5) hx hb hts i_Ex hown hK hP 2 rfl rfl 2 (by decide) (hts _ m_232) (fun _ h9 => h9) rfl d_Ex_functionNamed_31 ?_
            refine lv_iload_n hx hb d_Ex_functionNamed_34 rfl (lv_at hl 3 rfl) ?_
            refine va_iald hx hb hK hP 1 1 rfl rfl (vp_in_nI (show x < 40 by omega) (by decide)) d_Ex_functionNamed_35 ?_
            refine W.eq (g2 := F0 m 36 ls [.int (x2 x)]) (by rw [nI_clamp (show x < 2 ^ 31 by omega)] <;> rfl) ?_
            have hP := hP.sub (ws' := [(ex, .inr (8, [.int (nI z), .ref ex1, .ref ex2, .ref ex3, .ref ex4])), (ex1, .inl (cI, 40, .inl x1)), (ex2, .inl (cI, 40, .inl x2)), (ex3, .inl (cI, 40, .inl x3)), (ex4, .inl (cB, 1200, .inl x4)), (tp, .inl (cB, 2000, .inl f))]) [2, 0, 1, 3, 4, 5] rfl
            have hD := hD.sub (ws' := [(ex, .inr (8, [.int (nI z), .ref ex1, .ref ex2, .ref ex3, .ref ex4])), (ex1, .inl (cI, 40, .inl x1)), (ex2, .inl (cI, 40, .inl x2)), (ex3, .inl (cI, 40, .inl x3)), (ex4, .inl (cB, 1200, .inl x4)), (tp, .inl (cB, 2000, .inl f))]) [2, 0, 1, 3, 4, 5] (by decide) rfl
            exact ex_W (fun _ h => ex_mq h) (W.iret (v := x2 x) hx hb hr (fun t ht hW => ⟨⟨_, ⟨congrArg (fun z => Outcome.returned (some (Value.int z))) (by rw [hf]; simp [eFind, c_2, c_3]), rfl⟩, by rw [ht]; exact hP, hD⟩, hS.F ht⟩) hS.2.2 d_Ex_functionNamed_36)
  exact loop_2 (z + 1) 0 (by omega) (by omega) rfl _ _ hP hD hS _ (lv_sub hl [1, 2, 3, 0] rfl)
