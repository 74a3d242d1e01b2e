def sV (v : Int64) (b : Int32) (k : Nat) : Int64 := v ||| (b &&& 127).toInt64 <<< ((nI (7 * k)).toInt64 &&& 63)
/-- a number of at most n bytes more, behind k of them that gave v: the number, where the source stands then, whether it has failed -/
def sUns (f : Nat → Int32) (lm : Nat) (mo : Int64) : Nat → Nat → Int64 → Nat → Bool → Int64 × Nat × Bool
  | 0, _, _, a, _ => (0, a, true)
  | n + 1, k, v, a, fl => if 128 ≤ sOct f a lm fl then sUns f lm mo n (k + 1) (sV v (sOct f a lm fl) k) (sAt a lm fl) (sFl a lm fl)
    else if lg_cmp (sV v (sOct f a lm fl) k) mo ≤ 0 then (if sFl a lm fl = true then 0 else sV v (sOct f a lm fl) k, sAt a lm fl, sFl a lm fl) else (0, sAt a lm fl, true)
theorem sUns_le (f : Nat → Int32) (lm : Nat) (mo : Int64) {N : Nat} (hl : lm ≤ N) : ∀ (n k : Nat) (v : Int64) (a : Nat) (fl : Bool), a ≤ N → (sUns f lm mo n k v a fl).2.1 ≤ N := by
  intro n
  induction n with
  | zero => intro k v a fl h; exact h
  | succ n ih =>
    intro k v a fl h
    unfold sUns
    split
    · exact ih _ _ _ _ (sAt_le h hl)
    · split
      · exact sAt_le h hl
      · exact sAt_le h hl
abbrev b_So_unsigned : ByteArray := prog_10_method_10_code
def y_So_unsigned : MethodName := ⟨R_So, "unsigned", "(J)J"⟩
theorem d_So_unsigned_0 : decode b_So_unsigned 0 = .ok (.lconst 0, 1) := by decide +kernel
theorem d_So_unsigned_1 : decode b_So_unsigned 1 = .ok (.lstore_n 3, 1) := by decide +kernel
theorem d_So_unsigned_2 : decode b_So_unsigned 2 = .ok (.iconst 0, 1) := by decide +kernel
theorem d_So_unsigned_3 : decode b_So_unsigned 3 = .ok (.istore 5, 2) := by decide +kernel
theorem d_So_unsigned_5 : decode b_So_unsigned 5 = .ok (.iload 5, 2) := by decide +kernel
theorem d_So_unsigned_7 : decode b_So_unsigned 7 = .ok (.iconst 5, 1) := by decide +kernel
theorem d_So_unsigned_8 : decode b_So_unsigned 8 = .ok (.if_icmp .ge 62, 3) := by decide +kernel
theorem d_So_unsigned_11 : decode b_So_unsigned 11 = .ok (.aload_n 0, 1) := by decide +kernel
theorem d_So_unsigned_12 : decode b_So_unsigned 12 = .ok (.invokevirtual 26, 3) := by decide +kernel
theorem d_So_unsigned_15 : decode b_So_unsigned 15 = .ok (.istore 6, 2) := by decide +kernel
theorem d_So_unsigned_17 : decode b_So_unsigned 17 = .ok (.lload_n 3, 1) := by decide +kernel
theorem d_So_unsigned_18 : decode b_So_unsigned 18 = .ok (.iload 6, 2) := by decide +kernel
theorem d_So_unsigned_20 : decode b_So_unsigned 20 = .ok (.bipush 127, 2) := by decide +kernel
theorem d_So_unsigned_22 : decode b_So_unsigned 22 = .ok (.iand, 1) := by decide +kernel
theorem d_So_unsigned_23 : decode b_So_unsigned 23 = .ok (.i2l, 1) := by decide +kernel
theorem d_So_unsigned_24 : decode b_So_unsigned 24 = .ok (.bipush 7, 2) := by decide +kernel
theorem d_So_unsigned_26 : decode b_So_unsigned 26 = .ok (.iload 5, 2) := by decide +kernel
theorem d_So_unsigned_28 : decode b_So_unsigned 28 = .ok (.imul, 1) := by decide +kernel
theorem d_So_unsigned_29 : decode b_So_unsigned 29 = .ok (.lshl, 1) := by decide +kernel
theorem d_So_unsigned_30 : decode b_So_unsigned 30 = .ok (.lor, 1) := by decide +kernel
theorem d_So_unsigned_31 : decode b_So_unsigned 31 = .ok (.lstore_n 3, 1) := by decide +kernel
theorem d_So_unsigned_32 : decode b_So_unsigned 32 = .ok (.iload 6, 2) := by decide +kernel
theorem d_So_unsigned_34 : decode b_So_unsigned 34 = .ok (.sipush 128, 3) := by decide +kernel
theorem d_So_unsigned_37 : decode b_So_unsigned 37 = .ok (.if_icmp .ge 27, 3) := by decide +kernel
theorem d_So_unsigned_40 : decode b_So_unsigned 40 = .ok (.lload_n 3, 1) := by decide +kernel
theorem d_So_unsigned_41 : decode b_So_unsigned 41 = .ok (.lload_n 1, 1) := by decide +kernel
theorem d_So_unsigned_42 : decode b_So_unsigned 42 = .ok (.lcmp, 1) := by decide +kernel
theorem d_So_unsigned_43 : decode b_So_unsigned 43 = .ok (.ifCond .le 8, 3) := by decide +kernel
theorem d_So_unsigned_46 : decode b_So_unsigned 46 = .ok (.aload_n 0, 1) := by decide +kernel
theorem d_So_unsigned_47 : decode b_So_unsigned 47 = .ok (.iconst 1, 1) := by decide +kernel
theorem d_So_unsigned_48 : decode b_So_unsigned 48 = .ok (.putfield 22, 3) := by decide +kernel
theorem d_So_unsigned_51 : decode b_So_unsigned 51 = .ok (.aload_n 0, 1) := by decide +kernel
theorem d_So_unsigned_52 : decode b_So_unsigned 52 = .ok (.getfield 22, 3) := by decide +kernel
theorem d_So_unsigned_55 : decode b_So_unsigned 55 = .ok (.ifCond .eq 7, 3) := by decide +kernel
theorem d_So_unsigned_58 : decode b_So_unsigned 58 = .ok (.lconst 0, 1) := by decide +kernel
theorem d_So_unsigned_59 : decode b_So_unsigned 59 = .ok (.goto 4, 3) := by decide +kernel
theorem d_So_unsigned_62 : decode b_So_unsigned 62 = .ok (.lload_n 3, 1) := by decide +kernel
theorem d_So_unsigned_63 : decode b_So_unsigned 63 = .ok (.lreturn, 1) := by decide +kernel
theorem d_So_unsigned_64 : decode b_So_unsigned 64 = .ok (.iinc 5 1, 3) := by decide +kernel
theorem d_So_unsigned_67 : decode b_So_unsigned 67 = .ok (.goto (-62), 3) := by decide +kernel
theorem d_So_unsigned_70 : decode b_So_unsigned 70 = .ok (.aload_n 0, 1) := by decide +kernel
theorem d_So_unsigned_71 : decode b_So_unsigned 71 = .ok (.iconst 1, 1) := by decide +kernel
theorem d_So_unsigned_72 : decode b_So_unsigned 72 = .ok (.putfield 22, 3) := by decide +kernel
theorem d_So_unsigned_75 : decode b_So_unsigned 75 = .ok (.lconst 0, 1) := by decide +kernel
theorem d_So_unsigned_76 : decode b_So_unsigned 76 = .ok (.lreturn, 1) := by decide +kernel
set_option maxHeartbeats 8000000 in
set_option maxRecDepth 100000 in
theorem c_So_unsigned (l : Launch) (htr : l.stackTraces = false) (G : va_G) (cB cI cJ cZ : ClassId) (so : Nat) (sb : Nat) (f : Nat → Int32) (a : Nat) (lm : Nat) (fl : Bool) (ha : a ≤ 2000) (hl9 : lm ≤ 2000) (mo : Int64) (sz : Nat) : MetX l y_So_unsigned (wx y_So_unsigned b_So_unsigned 7 (some .long)) { frames := 1, cells := 0, slots := 0, locals := 21 } (XP G classes (xtys cB cI cJ cZ) xE [.ref so, .long mo] [(so, .inr (3, [.ref sb, .int (nI a), .int (nI lm), .int (bI fl)])), (sb, .inl (cB, 2000, .inl f))] sz) (XQ G classes (va_A [(so, .inr (3, [.ref sb, .int (nI a), .int (nI lm), .int (bI fl)])), (sb, .inl (cB, 2000, .inl f))] sz) (fun o w1 => o = .returned (some (.long ((sUns f lm mo 5 0 0 a fl).1))) ∧ w1 = [(so, .inr (3, [.ref sb, .int (nI (sUns f lm mo 5 0 0 a fl).2.1), .int (nI lm), .int (bI (sUns f lm mo 5 0 0 a fl).2.2)])), (sb, .inl (cB, 2000, .inl f))])) 0 0 (va_A [(so, .inr (3, [.ref sb, .int (nI a), .int (nI lm), .int (bI fl)])), (sb, .inl (cB, 2000, .inl f))] sz) := by
  refine ex_ofW (cc := b_So_unsigned) (maxL := 7) (ret := (some .long)) (by decide) rfl ?_
  intro p e s m args below meth c s₁ B hml hno hv
  obtain ⟨rfl, hsz, hP, hK, hD0, hE⟩ := hv
  have hx := B.exec
  have hb := B.bytes
  have hr := B.returns
  have hts : ∀ w ∈ lw_good, w.before _ s = true := fun w h => atoms_spec (ws := wx y_So_unsigned b_So_unsigned 7 (some .long)) B.pre w (List.mem_cons_of_mem _ h)
  have hown : s.vm.findClass R_So = some m.cls := findClass_of_methodNamed B.named
  have hlocks := B.notSynchronized
  have htr9 : e.platform.stackTraces = false := by rw [B.admits.platform]; exact htr
  subst hsz
  have hNS := xx_nostat hP
  have hD := hD0.self (sz := s.heap.size)
  generalize hAe : va_A [(so, .inr (3, [.ref sb, .int (nI a), .int (nI lm), .int (bI fl)])), (sb, .inl (cB, 2000, .inl f))] s.heap.size = A at hD hE hNS ⊢
  have hA : ∀ q : Nat, s.heap.size ≤ q → A q := fun q h => by rw [← hAe]; exact Or.inr h
  have hS : va_S A s.heap s.heap [] := va_S.rf
  have hl := lv_entry ([.ref so, .long mo]) (n := 7) (Nat.le_of_ble_eq_true rfl)
  rw [lg_entry_eq]
  generalize (lg_sl ([.ref so, .long mo]) ++ List.replicate (7 - (lg_sl ([.ref so, .long mo])).length) Slot.unset).toArray = ls at hl ⊢
  have hl : lv_has ls 7 [(0, .ref so), (1, .long mo)] := hl
  refine lv_lconst (v := 0) hx hb d_So_unsigned_0 (by decide) ?_
  refine lv_lstore_n (lv' := [(3, .long 0), (0, .ref so), (1, .long mo)]) hx hb d_So_unsigned_1 rfl hl (by decide) rfl (fun ls hl => ?_)
  refine lv_iconst (v := 0) hx hb d_So_unsigned_2 (by decide) ?_
  refine lv_istore (lv' := [(5, .int 0), (3, .long 0), (0, .ref so), (1, .long mo)]) hx hb d_So_unsigned_3 hl (by decide) rfl (fun ls hl => ?_)
  have loop_5 : ∀ (n9 : Nat) (k : Nat) (v1 : Int64) (a1 : Nat) (fl1 : Bool), k + n9 = 6 → k ≤ 5 → a1 ≤ 2000 → sUns f lm mo 5 0 0 a fl = sUns f lm mo (n9 - 1) k v1 a1 fl1 →  ∀ (H : Heap) (locs : List Loc), va_P G classes [(so, .inr (3, [.ref sb, .int (nI a1), .int (nI lm), .int (bI fl1)])), (sb, .inl (cB, 2000, .inl f))] H → va_D A [(so, .inr (3, [.ref sb, .int (nI a1), .int (nI lm), .int (bI fl1)])), (sb, .inl (cB, 2000, .inl f))] → va_S A s.heap H locs → ∀ (ls : Array Slot), lv_has ls 7 [(0, .ref so), (1, .long mo), (3, .long v1), (5, .int (nI k))] → W p l e (headSpec (wx y_So_unsigned b_So_unsigned 7 (some .long)) { frames := 1, cells := 0, slots := 0, locals := 21 }).room s m ([.ref so, .long mo] : List Value).toArray below meth c H locs 0 0 (MX below (XQ G classes A (fun o w1 => o = .returned (some (.long ((sUns f lm mo 5 0 0 a fl).1))) ∧ w1 = [(so, .inr (3, [.ref sb, .int (nI (sUns f lm mo 5 0 0 a fl).2.1), .int (nI lm), .int (bI (sUns f lm mo 5 0 0 a fl).2.2)])), (sb, .inl (cB, 2000, .inl f))])) ([.ref so, .long mo] : List Value).toArray s 0 0 A) (F0 m 5 ls []) := by
    intro n9
    induction n9 with
    | zero => intro k v1 a1 fl1 hk hk2 ha1 hU; exact absurd hk2 (by omega)
    | succ n9 ih_5 =>
      intro k v1 a1 fl1 hk hk2 ha1 hU H locs hP hD hS ls hl
      refine lv_iload hx hb d_So_unsigned_5 (lv_at hl 3 rfl) ?_
      refine lv_iconst (v := 5) hx hb d_So_unsigned_7 (by decide) ?_
      refine lv_icmp_ge (tgt := 70) hx hb d_So_unsigned_8 (by decide) (fun c_1 => ?_) (fun c_1 => ?_)
      · have c_1 : 5 ≤ k := (nI_leI (a := 5) (b := k) (by omega) (by omega)).mp c_1
        have hz : n9 = 0 := by omega
        subst hz
        refine lv_aload_n hx hb d_So_unsigned_70 rfl (lv_at hl 0 rfl) ?_
        refine lv_iconst (v := 1) hx hb d_So_unsigned_71 (by decide) ?_
        refine va_put (D := G) (ci := 3) (v := .int 1) (ty := .boolean) (C := R_So) (T := F_So) (N := 4) hx hb hts i_So t_So t_So_ok n_So hown hK hP hD hS 0 rfl rfl 3 (by decide) (hts _ m_51) (fun _ h9 => h9) rfl (by decide +kernel) rfl rfl (Nat.le_of_ble_eq_true rfl) d_So_unsigned_72 (fun H locs hP hD hS => ?_)
        have hP : va_P G classes [(so, .inr (3, [.ref sb, .int (nI a1), .int (nI lm), .int 1])), (sb, .inl (cB, 2000, .inl f))] H := hP
        have hD : va_D A [(so, .inr (3, [.ref sb, .int (nI a1), .int (nI lm), .int 1])), (sb, .inl (cB, 2000, .inl f))] := hD
        refine lv_lconst (v := 0) hx hb d_So_unsigned_75 (by decide) ?_
        have e9 : ([(so, .inr (3, [.ref sb, .int (nI (sUns f lm mo 5 0 0 a fl).2.1), .int (nI lm), .int (bI (sUns f lm mo 5 0 0 a fl).2.2)])), (sb, .inl (cB, 2000, .inl f))] : va_W) = [(so, .inr (3, [.ref sb, .int (nI a1), .int (nI lm), .int 1])), (sb, .inl (cB, 2000, .inl f))] := by rw [show (nI (sUns f lm mo 5 0 0 a fl).2.1 : Int32) = (nI a1) from by rw [hU]; simp [sUns, bI], show (bI (sUns f lm mo 5 0 0 a fl).2.2 : Int32) = 1 from by rw [hU]; simp [sUns, bI]]
        rw [← e9] at hP hD
        exact ex_W (fun _ h => ex_mq h) (W.lret (v := 0) hx hb hr (fun t ht hW => ⟨⟨_, ⟨congrArg (fun z => Outcome.returned (some (Value.long z))) (by rw [hU]; simp [sUns, bI]), rfl⟩, by rw [ht]; exact hP, hD⟩, hS.F ht⟩) hS.2.2 d_So_unsigned_76)
      · have c_1 : ¬ 5 ≤ k := fun q => c_1 ((nI_leI (a := 5) (b := k) (by omega) (by omega)).mpr q)
        obtain ⟨j, rfl⟩ : ∃ j, n9 = j + 1 := ⟨n9 - 1, by omega⟩
        refine lv_aload_n hx hb d_So_unsigned_11 rfl (lv_at hl 0 rfl) ?_
        refine xx_callV (wc := [(so, .inr (3, [.ref sb, .int (nI a1), .int (nI lm), .int (bI fl1)])), (sb, .inl (cB, 2000, .inl f))]) (wr := []) (As := []) (rest := []) ⟨hx, hb, hml, hown, hts⟩ xE_st hK hE hA (c_So_octet l htr G cB cI cJ cZ so sb f a1 lm fl1 (by omega) (by omega) _) (xw_V 0 hts m_600 m_601 m_602 m_3 m_603 (by decide +kernel) ⟨(Nat.le_of_ble_eq_true rfl), (Nat.le_of_ble_eq_true rfl)⟩) hP hD hS [0, 1] [] rfl rfl (by decide) (by decide) (by decide) 0 3 rfl rfl rfl rfl hl.1 rfl (Nat.le_of_ble_eq_true rfl) d_So_unsigned_12 ⟨(Nat.le_of_ble_eq_true rfl), (Nat.le_of_ble_eq_true rfl)⟩ (fun v9 w9 H locs hp hP hD hS => ?_) (fun x9 w9 H9 l9 hp _ _ _ => absurd hp (by rintro ⟨ho, -⟩; cases ho))
        obtain ⟨ho, rfl⟩ := hp
        cases ho
        have hP : va_P G classes [(so, .inr (3, [.ref sb, .int (nI (sAt a1 lm fl1)), .int (nI lm), .int (bI (sFl a1 lm fl1))])), (sb, .inl (cB, 2000, .inl f))] H := hP
        have hD : va_D A [(so, .inr (3, [.ref sb, .int (nI (sAt a1 lm fl1)), .int (nI lm), .int (bI (sFl a1 lm fl1))])), (sb, .inl (cB, 2000, .inl f))] := hD
        refine lv_istore (lv' := [(6, .int (sOct f a1 lm fl1)), (0, .ref so), (1, .long mo), (3, .long v1), (5, .int (nI k))]) hx hb d_So_unsigned_15 hl (by decide) rfl (fun ls hl => ?_)
        refine lv_lload_n hx hb d_So_unsigned_17 rfl (lv_at hl 3 rfl) ?_
        refine lv_iload hx hb d_So_unsigned_18 (lv_at hl 0 rfl) ?_
        refine lv_bipush (v := 127) hx hb d_So_unsigned_20 (by decide) ?_
        refine lv_iand hx hb d_So_unsigned_22 ?_
        refine lv_i2l hx hb d_So_unsigned_23 rfl ?_
        refine lv_bipush (v := 7) hx hb d_So_unsigned_24 (by decide) ?_
        refine lv_iload hx hb d_So_unsigned_26 (lv_at hl 4 rfl) ?_
        refine lv_imul hx hb d_So_unsigned_28 ?_
        refine lv_topi (fun x9 e_2 => ?_)
        obtain rfl : x9 = nI (7 * k) := e_2.trans (pk_mul 7 k)
        refine lv_lshl hx hb d_So_unsigned_29 rfl ?_
        refine lv_lor hx hb d_So_unsigned_30 ?_
        refine W.eq (g2 := F0 m 31 ls [.long (sV v1 (sOct f a1 lm fl1) k)]) rfl ?_
        refine lv_lstore_n (lv' := [(3, .long (sV v1 (sOct f a1 lm fl1) k)), (6, .int (sOct f a1 lm fl1)), (0, .ref so), (1, .long mo), (5, .int (nI k))]) hx hb d_So_unsigned_31 rfl hl (by decide) rfl (fun ls hl => ?_)
        refine lv_iload hx hb d_So_unsigned_32 (lv_at hl 1 rfl) ?_
        refine lv_sipush (v := 128) hx hb d_So_unsigned_34 (by decide) ?_
        refine lv_icmp_ge (tgt := 64) hx hb d_So_unsigned_37 (by decide) (fun c_3 => ?_) (fun c_3 => ?_)
        · refine lv_iinc (v := (nI (k + 1))) (lv' := [(5, .int (nI (k + 1))), (3, .long (sV v1 (sOct f a1 lm fl1) k)), (6, .int (sOct f a1 lm fl1)), (0, .ref so), (1, .long mo)]) hx hb d_So_unsigned_64 hl (k := 4) rfl (by first | rfl | decide | exact nI_add _ _) (by decide) rfl (fun ls hl => ?_)
          refine lv_goto (tgt := 5) hx hb d_So_unsigned_67 (by decide) ?_
          exact ih_5 (k + 1) (sV v1 (sOct f a1 lm fl1) k) (sAt a1 lm fl1) (sFl a1 lm fl1) (by omega) (by omega) (sAt_le ha1 hl9) (by rw [hU]; simp [sUns, c_3]) _ _ hP hD hS _ (lv_sub hl [3, 4, 1, 0] rfl)
        · refine lv_lload_n hx hb d_So_unsigned_40 rfl (lv_at hl 0 rfl) ?_
          refine lv_lload_n hx hb d_So_unsigned_41 rfl (lv_at hl 3 rfl) ?_
          refine W.lcmp hx hb d_So_unsigned_42 ?_
          refine lv_if_le (tgt := 51) hx hb d_So_unsigned_43 (by decide) (fun c_4 => ?_) (fun c_4 => ?_)
          · refine lv_aload_n hx hb d_So_unsigned_51 rfl (lv_at hl 2 rfl) ?_
            refine va_get (D := G) (ci := 3) (v := .int (bI (sFl a1 lm fl1))) (C := R_So) (T := F_So) (N := 4) hx hb hts i_So hown hK hP 0 rfl rfl 3 (by decide) (hts _ m_51) (fun _ h9 => h9) rfl d_So_unsigned_52 ?_
            refine lv_if_eq (tgt := 62) hx hb d_So_unsigned_55 (by decide) (fun c_5 => ?_) (fun c_5 => ?_)
            · have c_5 : sFl a1 lm fl1 = false := bI_f c_5
              refine lv_lload_n hx hb d_So_unsigned_62 rfl (lv_at hl 0 rfl) ?_
              have e9 : ([(so, .inr (3, [.ref sb, .int (nI (sUns f lm mo 5 0 0 a fl).2.1), .int (nI lm), .int (bI (sUns f lm mo 5 0 0 a fl).2.2)])), (sb, .inl (cB, 2000, .inl f))] : va_W) = [(so, .inr (3, [.ref sb, .int (nI (sAt a1 lm fl1)), .int (nI lm), .int (bI (sFl a1 lm fl1))])), (sb, .inl (cB, 2000, .inl f))] := by rw [show (nI (sUns f lm mo 5 0 0 a fl).2.1 : Int32) = (nI (sAt a1 lm fl1)) from by rw [hU]; simp [sUns, bI, c_3, c_4, c_5], show (bI (sUns f lm mo 5 0 0 a fl).2.2 : Int32) = (bI (sFl a1 lm fl1)) from by rw [hU]; simp [sUns, bI, c_3, c_4, c_5]]
              rw [← e9] at hP hD
              exact ex_W (fun _ h => ex_mq h) (W.lret (v := sV v1 (sOct f a1 lm fl1) k) hx hb hr (fun t ht hW => ⟨⟨_, ⟨congrArg (fun z => Outcome.returned (some (Value.long z))) (by rw [hU]; simp [sUns, bI, c_3, c_4, c_5]), rfl⟩, by rw [ht]; exact hP, hD⟩, hS.F ht⟩) hS.2.2 d_So_unsigned_63)
            · have c_5 : sFl a1 lm fl1 = true := bI_t c_5
              refine lv_lconst (v := 0) hx hb d_So_unsigned_58 (by decide) ?_
              refine lv_goto (tgt := 63) hx hb d_So_unsigned_59 (by decide) ?_
              have e9 : ([(so, .inr (3, [.ref sb, .int (nI (sUns f lm mo 5 0 0 a fl).2.1), .int (nI lm), .int (bI (sUns f lm mo 5 0 0 a fl).2.2)])), (sb, .inl (cB, 2000, .inl f))] : va_W) = [(so, .inr (3, [.ref sb, .int (nI (sAt a1 lm fl1)), .int (nI lm), .int (bI (sFl a1 lm fl1))])), (sb, .inl (cB, 2000, .inl f))] := by rw [show (nI (sUns f lm mo 5 0 0 a fl).2.1 : Int32) = (nI (sAt a1 lm fl1)) from by rw [hU]; simp [sUns, bI, c_3, c_4, c_5], show (bI (sUns f lm mo 5 0 0 a fl).2.2 : Int32) = (bI (sFl a1 lm fl1)) from by rw [hU]; simp [sUns, bI, c_3, c_4, c_5]]
              rw [← e9] at hP hD
              exact ex_W (fun _ h => ex_mq h) (W.lret (v := 0) hx hb hr (fun t ht hW => ⟨⟨_, ⟨congrArg (fun z => Outcome.returned (some (Value.long z))) (by rw [hU]; simp [sUns, bI, c_3, c_4, c_5]), rfl⟩, by rw [ht]; exact hP, hD⟩, hS.F ht⟩) hS.2.2 d_So_unsigned_63)
          · refine lv_aload_n hx hb d_So_unsigned_46 rfl (lv_at hl 2 rfl) ?_
            refine lv_iconst (v := 1) hx hb d_So_unsigned_47 (by decide) ?_
            refine va_put (D := G) (ci := 3) (v := .int 1) (ty := .boolean) (C := R_So) (T := F_So) (N := 4) hx hb hts i_So t_So t_So_ok n_So hown hK hP hD hS 0 rfl rfl 3 (by decide) (hts _ m_51) (fun _ h9 => h9) rfl (by decide +kernel) rfl rfl (Nat.le_of_ble_eq_true rfl) d_So_unsigned_48 (fun H locs hP hD hS => ?_)
            have hP : va_P G classes [(so, .inr (3, [.ref sb, .int (nI (sAt a1 lm fl1)), .int (nI lm), .int 1])), (sb, .inl (cB, 2000, .inl f))] H := hP
            have hD : va_D A [(so, .inr (3, [.ref sb, .int (nI (sAt a1 lm fl1)), .int (nI lm), .int 1])), (sb, .inl (cB, 2000, .inl f))] := hD
            refine lv_aload_n hx hb d_So_unsigned_51 rfl (lv_at hl 2 rfl) ?_
            refine va_get (D := G) (ci := 3) (v := .int 1) (C := R_So) (T := F_So) (N := 4) hx hb hts i_So hown hK hP 0 rfl rfl 3 (by decide) (hts _ m_51) (fun _ h9 => h9) rfl d_So_unsigned_52 ?_
            refine lv_if_eq (tgt := 62) hx hb d_So_unsigned_55 (by decide) (fun c_6 => absurd c_6 (by decide)) (fun c_6 => ?_)
            refine lv_lconst (v := 0) hx hb d_So_unsigned_58 (by decide) ?_
            refine lv_goto (tgt := 63) hx hb d_So_unsigned_59 (by decide) ?_
            have e9 : ([(so, .inr (3, [.ref sb, .int (nI (sUns f lm mo 5 0 0 a fl).2.1), .int (nI lm), .int (bI (sUns f lm mo 5 0 0 a fl).2.2)])), (sb, .inl (cB, 2000, .inl f))] : va_W) = [(so, .inr (3, [.ref sb, .int (nI (sAt a1 lm fl1)), .int (nI lm), .int 1])), (sb, .inl (cB, 2000, .inl f))] := by rw [show (nI (sUns f lm mo 5 0 0 a fl).2.1 : Int32) = (nI (sAt a1 lm fl1)) from by rw [hU]; simp [sUns, bI, c_3, c_4, c_6], show (bI (sUns f lm mo 5 0 0 a fl).2.2 : Int32) = 1 from by rw [hU]; simp [sUns, bI, c_3, c_4, c_6]]
            rw [← e9] at hP hD
            exact ex_W (fun _ h => ex_mq h) (W.lret (v := 0) hx hb hr (fun t ht hW => ⟨⟨_, ⟨congrArg (fun z => Outcome.returned (some (Value.long z))) (by rw [hU]; simp [sUns, bI, c_3, c_4, c_6]), rfl⟩, by rw [ht]; exact hP, hD⟩, hS.F ht⟩) hS.2.2 d_So_unsigned_63)
  exact loop_5 6 0 0 a fl (by omega) (by omega) ha rfl _ _ hP hD hS _ (lv_sub hl [2, 3, 1, 0] rfl)
