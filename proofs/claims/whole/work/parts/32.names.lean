/-- n places of two rows from i and from j on are the same: 1, else 0 -/
def eSame (p q : Nat → Int32) : Nat → Nat → Nat → Int32
  | 0, _, _ => 1
  | n + 1, i, j => if p i = q j then eSame p q n (i + 1) (j + 1) else 0
def eNamed (p q : Nat → Int32) (nl n i j : Nat) : Int32 := if nl = n then eSame p q n i j else 0
abbrev b_Ex_isNamed : ByteArray := prog_6_method_4_code
def y_Ex_isNamed : MethodName := ⟨R_Ex, "isNamed", "(I[BII)Z"⟩
theorem d_Ex_isNamed_0 : decode b_Ex_isNamed 0 = .ok (.aload_n 0, 1) := by decide +kernel
theorem d_Ex_isNamed_1 : decode b_Ex_isNamed 1 = .ok (.getfield 16, 3) := by decide +kernel
theorem d_Ex_isNamed_4 : decode b_Ex_isNamed 4 = .ok (.iload_n 1, 1) := by decide +kernel
theorem d_Ex_isNamed_5 : decode b_Ex_isNamed 5 = .ok (.iaload, 1) := by decide +kernel
theorem d_Ex_isNamed_6 : decode b_Ex_isNamed 6 = .ok (.iload 4, 2) := by decide +kernel
theorem d_Ex_isNamed_8 : decode b_Ex_isNamed 8 = .ok (.if_icmp .eq 5, 3) := by decide +kernel
theorem d_Ex_isNamed_11 : decode b_Ex_isNamed 11 = .ok (.iconst 0, 1) := by decide +kernel
theorem d_Ex_isNamed_12 : decode b_Ex_isNamed 12 = .ok (.ireturn, 1) := by decide +kernel
theorem d_Ex_isNamed_13 : decode b_Ex_isNamed 13 = .ok (.iconst 0, 1) := by decide +kernel
theorem d_Ex_isNamed_14 : decode b_Ex_isNamed 14 = .ok (.istore 5, 2) := by decide +kernel
theorem d_Ex_isNamed_16 : decode b_Ex_isNamed 16 = .ok (.iload 5, 2) := by decide +kernel
theorem d_Ex_isNamed_18 : decode b_Ex_isNamed 18 = .ok (.iload 4, 2) := by decide +kernel
theorem d_Ex_isNamed_20 : decode b_Ex_isNamed 20 = .ok (.if_icmp .ge 32, 3) := by decide +kernel
theorem d_Ex_isNamed_23 : decode b_Ex_isNamed 23 = .ok (.aload_n 0, 1) := by decide +kernel
theorem d_Ex_isNamed_24 : decode b_Ex_isNamed 24 = .ok (.getfield 19, 3) := by decide +kernel
theorem d_Ex_isNamed_27 : decode b_Ex_isNamed 27 = .ok (.iload_n 1, 1) := by decide +kernel
theorem d_Ex_isNamed_28 : decode b_Ex_isNamed 28 = .ok (.bipush 30, 2) := by decide +kernel
theorem d_Ex_isNamed_30 : decode b_Ex_isNamed 30 = .ok (.imul, 1) := by decide +kernel
theorem d_Ex_isNamed_31 : decode b_Ex_isNamed 31 = .ok (.iload 5, 2) := by decide +kernel
theorem d_Ex_isNamed_33 : decode b_Ex_isNamed 33 = .ok (.iadd, 1) := by decide +kernel
theorem d_Ex_isNamed_34 : decode b_Ex_isNamed 34 = .ok (.baload, 1) := by decide +kernel
theorem d_Ex_isNamed_35 : decode b_Ex_isNamed 35 = .ok (.aload_n 2, 1) := by decide +kernel
theorem d_Ex_isNamed_36 : decode b_Ex_isNamed 36 = .ok (.iload_n 3, 1) := by decide +kernel
theorem d_Ex_isNamed_37 : decode b_Ex_isNamed 37 = .ok (.iload 5, 2) := by decide +kernel
theorem d_Ex_isNamed_39 : decode b_Ex_isNamed 39 = .ok (.iadd, 1) := by decide +kernel
theorem d_Ex_isNamed_40 : decode b_Ex_isNamed 40 = .ok (.baload, 1) := by decide +kernel
theorem d_Ex_isNamed_41 : decode b_Ex_isNamed 41 = .ok (.if_icmp .eq 5, 3) := by decide +kernel
theorem d_Ex_isNamed_44 : decode b_Ex_isNamed 44 = .ok (.iconst 0, 1) := by decide +kernel
theorem d_Ex_isNamed_45 : decode b_Ex_isNamed 45 = .ok (.ireturn, 1) := by decide +kernel
theorem d_Ex_isNamed_46 : decode b_Ex_isNamed 46 = .ok (.iinc 5 1, 3) := by decide +kernel
theorem d_Ex_isNamed_49 : decode b_Ex_isNamed 49 = .ok (.goto (-33), 3) := by decide +kernel
theorem d_Ex_isNamed_52 : decode b_Ex_isNamed 52 = .ok (.iconst 1, 1) := by decide +kernel
theorem d_Ex_isNamed_53 : decode b_Ex_isNamed 53 = .ok (.ireturn, 1) := by decide +kernel
set_option maxHeartbeats 8000000 in
set_option maxRecDepth 100000 in
theorem c_Ex_isNamed (l : Launch) (htr : l.stackTraces = false) (G : va_G) (cB cI cJ cZ : ClassId) (ex : Nat) (ex1 : Nat) (ex2 : Nat) (ex3 : Nat) (ex4 : Nat) (es : Int32) (tp : Nat) (x3 : Nat → Int32) (x4 : Nat → Int32) (f : Nat → Int32) (x : Nat) (n : Nat) (st : Nat) (nl : Nat) (hx9 : x < 40) (hn : nl ≤ 30) (hst : st + 30 ≤ 2000) (hn2 : n ≤ 2000) (hq : x3 x = nI nl) (sz : Nat) : MetX l y_Ex_isNamed (wx y_Ex_isNamed b_Ex_isNamed 6 (some .boolean)) { frames := 0, cells := 0, slots := 0, locals := 0 } (XP G classes (xtys cB cI cJ cZ) xE [.ref ex, .int (nI x), .ref tp, .int (nI st), .int (nI n)] [(ex, .inr (8, [.int es, .ref ex1, .ref ex2, .ref ex3, .ref ex4])), (ex3, .inl (cI, 40, .inl x3)), (ex4, .inl (cB, 1200, .inl x4)), (tp, .inl (cB, 2000, .inl f))] sz) (XQ G classes (va_A [(ex, .inr (8, [.int es, .ref ex1, .ref ex2, .ref ex3, .ref ex4])), (ex3, .inl (cI, 40, .inl x3)), (ex4, .inl (cB, 1200, .inl x4)), (tp, .inl (cB, 2000, .inl f))] sz) (fun o w1 => o = .returned (some (.int (eNamed x4 f nl n (x * 30) st))) ∧ w1 = [(ex, .inr (8, [.int es, .ref ex1, .ref ex2, .ref ex3, .ref ex4])), (ex3, .inl (cI, 40, .inl x3)), (ex4, .inl (cB, 1200, .inl x4)), (tp, .inl (cB, 2000, .inl f))])) 0 0 (va_A [(ex, .inr (8, [.int es, .ref ex1, .ref ex2, .ref ex3, .ref ex4])), (ex3, .inl (cI, 40, .inl x3)), (ex4, .inl (cB, 1200, .inl x4)), (tp, .inl (cB, 2000, .inl f))] sz) := by
  refine ex_ofW (cc := b_Ex_isNamed) (maxL := 6) (ret := (some .boolean)) (by decide) rfl ?_
  intro p e s m args below meth c s₁ B hml hno hv
  obtain ⟨rfl, hsz, hP, hK, hD0, hE⟩ := hv
  have hx := B.exec
  have hb := B.bytes
  have hr := B.returns
  have hts : ∀ w ∈ lw_good, w.before _ s = true := fun w h => atoms_spec (ws := wx y_Ex_isNamed b_Ex_isNamed 6 (some .boolean)) B.pre w (List.mem_cons_of_mem _ h)
  have hown : s.vm.findClass R_Ex = some m.cls := findClass_of_methodNamed B.named
  have hlocks := B.notSynchronized
  have htr9 : e.platform.stackTraces = false := by rw [B.admits.platform]; exact htr
  subst hsz
  have hNS := xx_nostat hP
  have hD := hD0.self (sz := s.heap.size)
  generalize hAe : va_A [(ex, .inr (8, [.int es, .ref ex1, .ref ex2, .ref ex3, .ref ex4])), (ex3, .inl (cI, 40, .inl x3)), (ex4, .inl (cB, 1200, .inl x4)), (tp, .inl (cB, 2000, .inl f))] s.heap.size = A at hD hE hNS ⊢
  have hA : ∀ q : Nat, s.heap.size ≤ q → A q := fun q h => by rw [← hAe]; exact Or.inr h
  have hS : va_S A s.heap s.heap [] := va_S.rf
  have hl := lv_entry ([.ref ex, .int (nI x), .ref tp, .int (nI st), .int (nI n)]) (n := 6) (Nat.le_of_ble_eq_true rfl)
  rw [lg_entry_eq]
  generalize (lg_sl ([.ref ex, .int (nI x), .ref tp, .int (nI st), .int (nI n)]) ++ List.replicate (6 - (lg_sl ([.ref ex, .int (nI x), .ref tp, .int (nI st), .int (nI n)])).length) Slot.unset).toArray = ls at hl ⊢
  have hl : lv_has ls 6 [(0, .ref ex), (1, .int (nI x)), (2, .ref tp), (3, .int (nI st)), (4, .int (nI n))] := hl
  refine lv_aload_n hx hb d_Ex_isNamed_0 rfl (lv_at hl 0 rfl) ?_
  refine va_get (D := G) (ci := 8) (v := .ref ex3) (C := R_Ex) (T := F_Ex) (N := 5) hx hb hts i_Ex hown hK hP 0 rfl rfl 3 (by decide) (hts _ m_235) (fun _ h9 => h9) rfl d_Ex_isNamed_1 ?_
  refine lv_iload_n hx hb d_Ex_isNamed_4 rfl (lv_at hl 1 rfl) ?_
  refine va_iald hx hb hK hP 1 1 rfl rfl (vp_in_nI (show x < 40 by omega) (by decide)) d_Ex_isNamed_5 ?_
  refine W.eq (g2 := F0 m 6 ls [.int (x3 x)]) (by rw [nI_clamp (show x < 2 ^ 31 by omega)] <;> rfl) ?_
  refine W.eq (g2 := F0 m 6 ls [.int (nI nl)]) (by rw [hq]) ?_
  refine lv_iload hx hb d_Ex_isNamed_6 (lv_at hl 4 rfl) ?_
  refine lv_icmp_eq (tgt := 13) hx hb d_Ex_isNamed_8 (by decide) (fun c_1 => ?_) (fun c_1 => ?_)
  · have c_1 : nl = n := (nI_eq (a := nl) (b := n) (by omega) (by omega)).mp c_1
    refine lv_iconst (v := 0) hx hb d_Ex_isNamed_13 (by decide) ?_
    refine lv_istore (lv' := [(5, .int 0), (0, .ref ex), (1, .int (nI x)), (2, .ref tp), (3, .int (nI st)), (4, .int (nI n))]) hx hb d_Ex_isNamed_14 hl (by decide) rfl (fun ls hl => ?_)
    have loop_16 : ∀ (n9 : Nat) (k : Nat), k + n9 = n + 1 → k ≤ n → eNamed x4 f nl n (x * 30) st = eSame x4 f (n9 - 1) (x * 30 + k) (st + k) →  ∀ (H : Heap) (locs : List Loc), va_P G classes [(ex, .inr (8, [.int es, .ref ex1, .ref ex2, .ref ex3, .ref ex4])), (ex3, .inl (cI, 40, .inl x3)), (ex4, .inl (cB, 1200, .inl x4)), (tp, .inl (cB, 2000, .inl f))] H → va_D A [(ex, .inr (8, [.int es, .ref ex1, .ref ex2, .ref ex3, .ref ex4])), (ex3, .inl (cI, 40, .inl x3)), (ex4, .inl (cB, 1200, .inl x4)), (tp, .inl (cB, 2000, .inl f))] → va_S A s.heap H locs → ∀ (ls : Array Slot), lv_has ls 6 [(0, .ref ex), (1, .int (nI x)), (2, .ref tp), (3, .int (nI st)), (4, .int (nI n)), (5, .int (nI k))] → W p l e (headSpec (wx y_Ex_isNamed b_Ex_isNamed 6 (some .boolean)) { frames := 0, cells := 0, slots := 0, locals := 0 }).room s m ([.ref ex, .int (nI x), .ref tp, .int (nI st), .int (nI n)] : List Value).toArray below meth c H locs 0 0 (MX below (XQ G classes A (fun o w1 => o = .returned (some (.int (eNamed x4 f nl n (x * 30) st))) ∧ w1 = [(ex, .inr (8, [.int es, .ref ex1, .ref ex2, .ref ex3, .ref ex4])), (ex3, .inl (cI, 40, .inl x3)), (ex4, .inl (cB, 1200, .inl x4)), (tp, .inl (cB, 2000, .inl f))])) ([.ref ex, .int (nI x), .ref tp, .int (nI st), .int (nI n)] : List Value).toArray s 0 0 A) (F0 m 16 ls []) := by
      intro n9
      induction n9 with
      | zero => intro k hk hk2 hf; exact absurd hk2 (by omega)
      | succ n9 ih_16 =>
        intro k hk hk2 hf H locs hP hD hS ls hl
        refine lv_iload hx hb d_Ex_isNamed_16 (lv_at hl 5 rfl) ?_
        refine lv_iload hx hb d_Ex_isNamed_18 (lv_at hl 4 rfl) ?_
        refine lv_icmp_ge (tgt := 52) hx hb d_Ex_isNamed_20 (by decide) (fun c_2 => ?_) (fun c_2 => ?_)
        · have c_2 : n ≤ k := (nI_leI (a := n) (b := k) (by omega) (by omega)).mp c_2
          have hz : n9 = 0 := by omega
          subst hz
          refine lv_iconst (v := 1) hx hb d_Ex_isNamed_52 (by decide) ?_
          exact ex_W (fun _ h => ex_mq h) (W.zret (v := 1) hx hb hr rfl (fun t ht hW => ⟨⟨_, ⟨congrArg (fun z => Outcome.returned (some (Value.int z))) (by rw [hf]; simp [eSame, c_2]), rfl⟩, by rw [ht]; exact hP, hD⟩, hS.F ht⟩) hS.2.2 d_Ex_isNamed_53)
        · have c_2 : ¬ n ≤ k := fun q => c_2 ((nI_leI (a := n) (b := k) (by omega) (by omega)).mpr q)
          obtain ⟨j, rfl⟩ : ∃ j, n9 = j + 1 := ⟨n9 - 1, by omega⟩
          refine lv_aload_n hx hb d_Ex_isNamed_23 rfl (lv_at hl 0 rfl) ?_
          refine va_get (D := G) (ci := 8) (v := .ref ex4) (C := R_Ex) (T := F_Ex) (N := 5) hx hb hts i_Ex hown hK hP 0 rfl rfl 4 (by decide) (hts _ m_237) (fun _ h9 => h9) rfl d_Ex_isNamed_24 ?_
          refine lv_iload_n hx hb d_Ex_isNamed_27 rfl (lv_at hl 1 rfl) ?_
          refine lv_bipush (v := 30) hx hb d_Ex_isNamed_28 (by decide) ?_
          refine lv_imul hx hb d_Ex_isNamed_30 ?_
          refine lv_topi (fun x9 e_3 => ?_)
          obtain rfl : x9 = nI (x * 30) := e_3.trans (pk_mul x 30)
          refine lv_iload hx hb d_Ex_isNamed_31 (lv_at hl 5 rfl) ?_
          refine lv_iadd hx hb d_Ex_isNamed_33 ?_
          refine lv_topi (fun x9 e_4 => ?_)
          obtain rfl : x9 = nI (x * 30 + k) := e_4.trans (nI_add (x * 30) k)
          refine va_bald hx hb hK hP 2 0 rfl rfl (vp_in_nI (show x * 30 + k < 1200 by omega) (by decide)) d_Ex_isNamed_34 ?_
          refine W.eq (g2 := F0 m 35 ls [.int (x4 (x * 30 + k))]) (by rw [nI_clamp (show x * 30 + k < 2 ^ 31 by omega)] <;> rfl) ?_
          refine lv_aload_n hx hb d_Ex_isNamed_35 rfl (lv_at hl 2 rfl) ?_
          refine lv_iload_n hx hb d_Ex_isNamed_36 rfl (lv_at hl 3 rfl) ?_
          refine lv_iload hx hb d_Ex_isNamed_37 (lv_at hl 5 rfl) ?_
          refine lv_iadd hx hb d_Ex_isNamed_39 ?_
          refine lv_topi (fun x9 e_5 => ?_)
          obtain rfl : x9 = nI (st + k) := e_5.trans (nI_add st k)
          refine va_bald hx hb hK hP 3 0 rfl rfl (vp_in_nI (show st + k < 2000 by omega) (by decide)) d_Ex_isNamed_40 ?_
          refine W.eq (g2 := F0 m 41 ls [.int (f (st + k)), .int (x4 (x * 30 + k))]) (by rw [nI_clamp (show st + k < 2 ^ 31 by omega)] <;> rfl) ?_
          refine lv_icmp_eq (tgt := 46) hx hb d_Ex_isNamed_41 (by decide) (fun c_6 => ?_) (fun c_6 => ?_)
          · refine lv_iinc (v := (nI (k + 1))) (lv' := [(5, .int (nI (k + 1))), (0, .ref ex), (1, .int (nI x)), (2, .ref tp), (3, .int (nI st)), (4, .int (nI n))]) hx hb d_Ex_isNamed_46 hl (k := 5) rfl (by first | rfl | decide | exact nI_add _ _) (by decide) rfl (fun ls hl => ?_)
            refine lv_goto (tgt := 16) hx hb d_Ex_isNamed_49 (by decide) ?_
            exact ih_16 (k + 1) (by omega) (by omega) (by rw [hf]; simp [eSame, Nat.add_assoc, c_2, c_6]) _ _ hP hD hS _ (lv_sub hl [1, 2, 3, 4, 5, 0] rfl)
          · refine lv_iconst (v := 0) hx hb d_Ex_isNamed_44 (by decide) ?_
            exact ex_W (fun _ h => ex_mq h) (W.zret (v := 0) hx hb hr rfl (fun t ht hW => ⟨⟨_, ⟨congrArg (fun z => Outcome.returned (some (Value.int z))) (by rw [hf]; simp [eSame, c_2, c_6]), rfl⟩, by rw [ht]; exact hP, hD⟩, hS.F ht⟩) hS.2.2 d_Ex_isNamed_45)
    exact loop_16 (n + 1) 0 (by omega) (by omega) (by simp [eNamed, c_1]) _ _ hP hD hS _ (lv_sub hl [1, 2, 3, 4, 5, 0] rfl)
  · have c_1 : ¬ nl = n := fun q => c_1 ((nI_eq (a := nl) (b := n) (by omega) (by omega)).mpr q)
    refine lv_iconst (v := 0) hx hb d_Ex_isNamed_11 (by decide) ?_
    exact ex_W (fun _ h => ex_mq h) (W.zret (v := 0) hx hb hr rfl (fun t ht hW => ⟨⟨_, ⟨congrArg (fun z => Outcome.returned (some (Value.int z))) (by simp [eNamed, c_1]), rfl⟩, by rw [ht]; exact hP, hD⟩, hS.F ht⟩) hS.2.2 d_Ex_isNamed_12)
