/-- a truth as the machine has it -/
def bI (b : Bool) : Int32 := if b = true then 1 else 0
theorem bI_t {b : Bool} (h : ¬ bI b = 0) : b = true := by cases b <;> simp_all [bI]
theorem bI_f {b : Bool} (h : bI b = 0) : b = false := by cases b <;> simp_all [bI]
theorem bI_nar (b : Bool) : narrow .boolean (.int (bI b)) = .int (bI b) := by cases b <;> rfl
theorem bI_fit (b : Bool) : fits .boolean (.int (bI b)) = true := by cases b <;> rfl
/-- the next byte of a source, where it stands then, whether it has failed -/
def sOct (f : Nat → Int32) (a l : Nat) (fl : Bool) : Int32 := if fl = true then 0 else if a < l then f a &&& 255 else 0
def sAt (a l : Nat) (fl : Bool) : Nat := if fl = true then a else if a < l then a + 1 else a
def sFl (a l : Nat) (fl : Bool) : Bool := if fl = true then true else if a < l then false else true
theorem sAt_le {a l n : Nat} {fl : Bool} (h : a ≤ n) (hl : l ≤ n) : sAt a l fl ≤ n := by unfold sAt; split; exact h; split; omega; exact h
def sReq (f : Nat → Int32) (a l : Nat) (fl : Bool) (n : Int32) : Bool := if sOct f a l fl = n then sFl a l fl else true
abbrev b_So_fail : ByteArray := prog_10_method_3_code
def y_So_fail : MethodName := ⟨R_So, "fail", "()V"⟩
theorem d_So_octet_25 : decode b_So_octet 25 = .ok (.aload_n 0, 1) := by decide +kernel
theorem d_So_octet_26 : decode b_So_octet 26 = .ok (.getfield 9, 3) := by decide +kernel
theorem d_So_octet_29 : decode b_So_octet 29 = .ok (.aload_n 0, 1) := by decide +kernel
theorem d_So_octet_30 : decode b_So_octet 30 = .ok (.getfield 15, 3) := by decide +kernel
theorem d_So_octet_33 : decode b_So_octet 33 = .ok (.baload, 1) := by decide +kernel
theorem d_So_octet_34 : decode b_So_octet 34 = .ok (.sipush 255, 3) := by decide +kernel
theorem d_So_octet_37 : decode b_So_octet 37 = .ok (.iand, 1) := by decide +kernel
theorem d_So_octet_38 : decode b_So_octet 38 = .ok (.istore_n 1, 1) := by decide +kernel
theorem d_So_octet_39 : decode b_So_octet 39 = .ok (.aload_n 0, 1) := by decide +kernel
theorem d_So_octet_40 : decode b_So_octet 40 = .ok (.dup, 1) := by decide +kernel
theorem d_So_octet_41 : decode b_So_octet 41 = .ok (.getfield 15, 3) := by decide +kernel
theorem d_So_octet_44 : decode b_So_octet 44 = .ok (.iconst 1, 1) := by decide +kernel
theorem d_So_octet_45 : decode b_So_octet 45 = .ok (.iadd, 1) := by decide +kernel
theorem d_So_octet_46 : decode b_So_octet 46 = .ok (.putfield 15, 3) := by decide +kernel
theorem d_So_octet_49 : decode b_So_octet 49 = .ok (.iload_n 1, 1) := by decide +kernel
theorem d_So_octet_50 : decode b_So_octet 50 = .ok (.ireturn, 1) := by decide +kernel
theorem d_So_fail_0 : decode b_So_fail 0 = .ok (.aload_n 0, 1) := by decide +kernel
theorem d_So_fail_1 : decode b_So_fail 1 = .ok (.iconst 1, 1) := by decide +kernel
theorem d_So_fail_2 : decode b_So_fail 2 = .ok (.putfield 22, 3) := by decide +kernel
theorem d_So_fail_5 : decode b_So_fail 5 = .ok (.return_, 1) := by decide +kernel
theorem d_So_hasMore_7 : decode b_So_hasMore 7 = .ok (.aload_n 0, 1) := by decide +kernel
theorem d_So_hasMore_8 : decode b_So_hasMore 8 = .ok (.getfield 15, 3) := by decide +kernel
theorem d_So_hasMore_11 : decode b_So_hasMore 11 = .ok (.aload_n 0, 1) := by decide +kernel
theorem d_So_hasMore_12 : decode b_So_hasMore 12 = .ok (.getfield 19, 3) := by decide +kernel
theorem d_So_hasMore_15 : decode b_So_hasMore 15 = .ok (.if_icmp .ge 7, 3) := by decide +kernel
theorem d_So_hasMore_18 : decode b_So_hasMore 18 = .ok (.iconst 1, 1) := by decide +kernel
theorem d_So_hasMore_19 : decode b_So_hasMore 19 = .ok (.goto 4, 3) := by decide +kernel
set_option maxHeartbeats 8000000 in
set_option maxRecDepth 100000 in
theorem c_So_octet (l : Launch) (htr : l.stackTraces = false) (G : va_G) (cB cI cJ cZ : ClassId) (so : Nat) (sb : Nat) (f : Nat → Int32) (a : Nat) (lm : Nat) (fl : Bool) (ha : a ≤ 2000) (hl9 : lm ≤ 2000) (sz : Nat) : MetX l y_So_octet (wx y_So_octet b_So_octet 2 (some .int)) { frames := 0, cells := 0, slots := 0, locals := 0 } (XP G classes (xtys cB cI cJ cZ) xE [.ref so] [(so, .inr (3, [.ref sb, .int (nI a), .int (nI lm), .int (bI fl)])), (sb, .inl (cB, 2000, .inl f))] sz) (XQ G classes (va_A [(so, .inr (3, [.ref sb, .int (nI a), .int (nI lm), .int (bI fl)])), (sb, .inl (cB, 2000, .inl f))] sz) (fun o w1 => o = .returned (some (.int (sOct f a lm fl))) ∧ w1 = [(so, .inr (3, [.ref sb, .int (nI (sAt a lm fl)), .int (nI lm), .int (bI (sFl a lm fl))])), (sb, .inl (cB, 2000, .inl f))])) 0 0 (va_A [(so, .inr (3, [.ref sb, .int (nI a), .int (nI lm), .int (bI fl)])), (sb, .inl (cB, 2000, .inl f))] sz) := by
  refine ex_ofW (cc := b_So_octet) (maxL := 2) (ret := (some .int)) (by decide) rfl ?_
  intro p e s m args below meth c s₁ B hml hno hv
  obtain ⟨rfl, hsz, hP, hK, hD0, hE⟩ := hv
  have hx := B.exec
  have hb := B.bytes
  have hr := B.returns
  have hts : ∀ w ∈ lw_good, w.before _ s = true := fun w h => atoms_spec (ws := wx y_So_octet b_So_octet 2 (some .int)) B.pre w (List.mem_cons_of_mem _ h)
  have hown : s.vm.findClass R_So = some m.cls := findClass_of_methodNamed B.named
  have hlocks := B.notSynchronized
  have htr9 : e.platform.stackTraces = false := by rw [B.admits.platform]; exact htr
  subst hsz
  have hNS := xx_nostat hP
  have hD := hD0.self (sz := s.heap.size)
  generalize hAe : va_A [(so, .inr (3, [.ref sb, .int (nI a), .int (nI lm), .int (bI fl)])), (sb, .inl (cB, 2000, .inl f))] s.heap.size = A at hD hE hNS ⊢
  have hA : ∀ q : Nat, s.heap.size ≤ q → A q := fun q h => by rw [← hAe]; exact Or.inr h
  have hS : va_S A s.heap s.heap [] := va_S.rf
  have hl := lv_entry ([.ref so]) (n := 2) (Nat.le_of_ble_eq_true rfl)
  rw [lg_entry_eq]
  generalize (lg_sl ([.ref so]) ++ List.replicate (2 - (lg_sl ([.ref so])).length) Slot.unset).toArray = ls at hl ⊢
  have hl : lv_has ls 2 [(0, .ref so)] := hl
  refine lv_aload_n hx hb d_So_octet_0 rfl (lv_at hl 0 rfl) ?_
  refine va_get (D := G) (ci := 3) (v := .int (bI fl)) (C := R_So) (T := F_So) (N := 4) hx hb hts i_So hown hK hP 0 rfl rfl 3 (by decide) (hts _ m_51) (fun _ h9 => h9) rfl d_So_octet_1 ?_
  refine lv_if_ne (tgt := 18) hx hb d_So_octet_4 (by decide) (fun c_1 => ?_) (fun c_1 => ?_)
  · have c_1 : fl = true := bI_t c_1
    refine lv_aload_n hx hb d_So_octet_18 rfl (lv_at hl 0 rfl) ?_
    refine lv_iconst (v := 1) hx hb d_So_octet_19 (by decide) ?_
    refine va_put (D := G) (ci := 3) (v := .int 1) (ty := .boolean) (C := R_So) (T := F_So) (N := 4) hx hb hts i_So t_So t_So_ok n_So hown hK hP hD hS 0 rfl rfl 3 (by decide) (hts _ m_51) (fun _ h9 => h9) rfl (by decide +kernel) rfl rfl (Nat.le_of_ble_eq_true rfl) d_So_octet_20 (fun H locs hP hD hS => ?_)
    have hP : va_P G classes [(so, .inr (3, [.ref sb, .int (nI a), .int (nI lm), .int 1])), (sb, .inl (cB, 2000, .inl f))] H := hP
    have hD : va_D A [(so, .inr (3, [.ref sb, .int (nI a), .int (nI lm), .int 1])), (sb, .inl (cB, 2000, .inl f))] := hD
    refine lv_iconst (v := 0) hx hb d_So_octet_23 (by decide) ?_
    have e9 : ([(so, .inr (3, [.ref sb, .int (nI (sAt a lm fl)), .int (nI lm), .int (bI (sFl a lm fl))])), (sb, .inl (cB, 2000, .inl f))] : va_W) = [(so, .inr (3, [.ref sb, .int (nI a), .int (nI lm), .int 1])), (sb, .inl (cB, 2000, .inl f))] := by rw [show (nI (sAt a lm fl) : Int32) = (nI a) from by first | (simp [bI, sOct, sAt, sFl, c_1]; done) | (exfalso; simp_all; done), show (bI (sFl a lm fl) : Int32) = 1 from by first | (simp [bI, sOct, sAt, sFl, c_1]; done) | (exfalso; simp_all; done)]
    rw [← e9] at hP hD
    exact ex_W (fun _ h => ex_mq h) (W.iret (v := 0) hx hb hr (fun t ht hW => ⟨⟨_, ⟨congrArg (fun z => Outcome.returned (some (Value.int z))) (by first | (simp [bI, sOct, sAt, sFl, c_1]; done) | (exfalso; simp_all; done)), rfl⟩, by rw [ht]; exact hP, hD⟩, hS.F ht⟩) hS.2.2 d_So_octet_24)
  · have c_1 : fl = false := bI_f c_1
    refine lv_aload_n hx hb d_So_octet_7 rfl (lv_at hl 0 rfl) ?_
    refine va_get (D := G) (ci := 3) (v := .int (nI a)) (C := R_So) (T := F_So) (N := 4) hx hb hts i_So hown hK hP 0 rfl rfl 1 (by decide) (hts _ m_49) (fun _ h9 => h9) rfl d_So_octet_8 ?_
    refine lv_aload_n hx hb d_So_octet_11 rfl (lv_at hl 0 rfl) ?_
    refine va_get (D := G) (ci := 3) (v := .int (nI lm)) (C := R_So) (T := F_So) (N := 4) hx hb hts i_So hown hK hP 0 rfl rfl 2 (by decide) (hts _ m_50) (fun _ h9 => h9) rfl d_So_octet_12 ?_
    refine lv_icmp_lt (tgt := 25) hx hb d_So_octet_15 (by decide) (fun c_2 => ?_) (fun c_2 => ?_)
    · have c_2 : a < lm := (nI_ltI (a := a) (b := lm) (by omega) (by omega)).mp c_2
      refine lv_aload_n hx hb d_So_octet_25 rfl (lv_at hl 0 rfl) ?_
      refine va_get (D := G) (ci := 3) (v := .ref sb) (C := R_So) (T := F_So) (N := 4) hx hb hts i_So hown hK hP 0 rfl rfl 0 (by decide) (hts _ m_48) (fun _ h9 => h9) rfl d_So_octet_26 ?_
      refine lv_aload_n hx hb d_So_octet_29 rfl (lv_at hl 0 rfl) ?_
      refine va_get (D := G) (ci := 3) (v := .int (nI a)) (C := R_So) (T := F_So) (N := 4) hx hb hts i_So hown hK hP 0 rfl rfl 1 (by decide) (hts _ m_49) (fun _ h9 => h9) rfl d_So_octet_30 ?_
      refine va_bald hx hb hK hP 1 0 rfl rfl (vp_in_nI (show a < 2000 by omega) (by decide)) d_So_octet_33 ?_
      refine W.eq (g2 := F0 m 34 ls [.int (f a)]) (by rw [nI_clamp (show a < 2 ^ 31 by omega)] <;> rfl) ?_
      refine lv_sipush (v := 255) hx hb d_So_octet_34 (by decide) ?_
      refine lv_iand hx hb d_So_octet_37 ?_
      refine lv_istore_n (lv' := [(1, .int ((f a) &&& 255)), (0, .ref so)]) hx hb d_So_octet_38 rfl hl (by decide) rfl (fun ls hl => ?_)
      refine lv_aload_n hx hb d_So_octet_39 rfl (lv_at hl 1 rfl) ?_
      refine lv_dup hx hb d_So_octet_40 rfl ?_
      refine va_get (D := G) (ci := 3) (v := .int (nI a)) (C := R_So) (T := F_So) (N := 4) hx hb hts i_So hown hK hP 0 rfl rfl 1 (by decide) (hts _ m_49) (fun _ h9 => h9) rfl d_So_octet_41 ?_
      refine lv_iconst (v := 1) hx hb d_So_octet_44 (by decide) ?_
      refine lv_iadd hx hb d_So_octet_45 ?_
      refine lv_topi (fun x9 e_3 => ?_)
      obtain rfl : x9 = nI (a + 1) := e_3.trans (nI_add _ 1)
      refine va_put (D := G) (ci := 3) (v := .int (nI (a + 1))) (ty := .int) (C := R_So) (T := F_So) (N := 4) hx hb hts i_So t_So t_So_ok n_So hown hK hP hD hS 0 rfl rfl 1 (by decide) (hts _ m_49) (fun _ h9 => h9) rfl (by decide +kernel) rfl rfl (Nat.le_of_ble_eq_true rfl) d_So_octet_46 (fun H locs hP hD hS => ?_)
      have hP : va_P G classes [(so, .inr (3, [.ref sb, .int (nI (a + 1)), .int (nI lm), .int (bI fl)])), (sb, .inl (cB, 2000, .inl f))] H := hP
      have hD : va_D A [(so, .inr (3, [.ref sb, .int (nI (a + 1)), .int (nI lm), .int (bI fl)])), (sb, .inl (cB, 2000, .inl f))] := hD
      refine lv_iload_n hx hb d_So_octet_49 rfl (lv_at hl 0 rfl) ?_
      have e9 : ([(so, .inr (3, [.ref sb, .int (nI (sAt a lm fl)), .int (nI lm), .int (bI (sFl a lm fl))])), (sb, .inl (cB, 2000, .inl f))] : va_W) = [(so, .inr (3, [.ref sb, .int (nI (a + 1)), .int (nI lm), .int (bI fl)])), (sb, .inl (cB, 2000, .inl f))] := by rw [show (nI (sAt a lm fl) : Int32) = (nI (a + 1)) from by first | (simp [bI, sOct, sAt, sFl, c_1, c_2]; done) | (exfalso; simp_all; done), show (bI (sFl a lm fl) : Int32) = (bI fl) from by first | (simp [bI, sOct, sAt, sFl, c_1, c_2]; done) | (exfalso; simp_all; done)]
      rw [← e9] at hP hD
      exact ex_W (fun _ h => ex_mq h) (W.iret (v := (f a) &&& 255) hx hb hr (fun t ht hW => ⟨⟨_, ⟨congrArg (fun z => Outcome.returned (some (Value.int z))) (by first | (simp [bI, sOct, sAt, sFl, c_1, c_2]; done) | (exfalso; simp_all; done)), rfl⟩, by rw [ht]; exact hP, hD⟩, hS.F ht⟩) hS.2.2 d_So_octet_50)
    · have c_2 : ¬ a < lm := fun q => c_2 ((nI_ltI (a := a) (b := lm) (by omega) (by omega)).mpr q)
      refine lv_aload_n hx hb d_So_octet_18 rfl (lv_at hl 0 rfl) ?_
      refine lv_iconst (v := 1) hx hb d_So_octet_19 (by decide) ?_
      refine va_put (D := G) (ci := 3) (v := .int 1) (ty := .boolean) (C := R_So) (T := F_So) (N := 4) hx hb hts i_So t_So t_So_ok n_So hown hK hP hD hS 0 rfl rfl 3 (by decide) (hts _ m_51) (fun _ h9 => h9) rfl (by decide +kernel) rfl rfl (Nat.le_of_ble_eq_true rfl) d_So_octet_20 (fun H locs hP hD hS => ?_)
      have hP : va_P G classes [(so, .inr (3, [.ref sb, .int (nI a), .int (nI lm), .int 1])), (sb, .inl (cB, 2000, .inl f))] H := hP
      have hD : va_D A [(so, .inr (3, [.ref sb, .int (nI a), .int (nI lm), .int 1])), (sb, .inl (cB, 2000, .inl f))] := hD
      refine lv_iconst (v := 0) hx hb d_So_octet_23 (by decide) ?_
      have e9 : ([(so, .inr (3, [.ref sb, .int (nI (sAt a lm fl)), .int (nI lm), .int (bI (sFl a lm fl))])), (sb, .inl (cB, 2000, .inl f))] : va_W) = [(so, .inr (3, [.ref sb, .int (nI a), .int (nI lm), .int 1])), (sb, .inl (cB, 2000, .inl f))] := by rw [show (nI (sAt a lm fl) : Int32) = (nI a) from by first | (simp [bI, sOct, sAt, sFl, c_1, c_2]; done) | (exfalso; simp_all; done), show (bI (sFl a lm fl) : Int32) = 1 from by first | (simp [bI, sOct, sAt, sFl, c_1, c_2]; done) | (exfalso; simp_all; done)]
      rw [← e9] at hP hD
      exact ex_W (fun _ h => ex_mq h) (W.iret (v := 0) hx hb hr (fun t ht hW => ⟨⟨_, ⟨congrArg (fun z => Outcome.returned (some (Value.int z))) (by first | (simp [bI, sOct, sAt, sFl, c_1, c_2]; done) | (exfalso; simp_all; done)), rfl⟩, by rw [ht]; exact hP, hD⟩, hS.F ht⟩) hS.2.2 d_So_octet_24)
set_option maxHeartbeats 8000000 in
set_option maxRecDepth 100000 in
theorem c_So_require (l : Launch) (htr : l.stackTraces = false) (G : va_G) (cB cI cJ cZ : ClassId) (so : Nat) (sb : Nat) (f : Nat → Int32) (a : Nat) (lm : Nat) (fl : Bool) (ha : a ≤ 2000) (hl9 : lm ≤ 2000) (n : Int32) (sz : Nat) : MetX l y_So_require (wx y_So_require b_So_require 2 none) { frames := 1, cells := 0, slots := 0, locals := 21 } (XP G classes (xtys cB cI cJ cZ) xE [.ref so, .int n] [(so, .inr (3, [.ref sb, .int (nI a), .int (nI lm), .int (bI fl)])), (sb, .inl (cB, 2000, .inl f))] sz) (XQ G classes (va_A [(so, .inr (3, [.ref sb, .int (nI a), .int (nI lm), .int (bI fl)])), (sb, .inl (cB, 2000, .inl f))] sz) (fun o w1 => o = .returned none ∧ w1 = [(so, .inr (3, [.ref sb, .int (nI (sAt a lm fl)), .int (nI lm), .int (bI (sReq f a lm fl n))])), (sb, .inl (cB, 2000, .inl f))])) 0 0 (va_A [(so, .inr (3, [.ref sb, .int (nI a), .int (nI lm), .int (bI fl)])), (sb, .inl (cB, 2000, .inl f))] sz) := by
  refine ex_ofW (cc := b_So_require) (maxL := 2) (ret := none) (by decide) rfl ?_
  intro p e s m args below meth c s₁ B hml hno hv
  obtain ⟨rfl, hsz, hP, hK, hD0, hE⟩ := hv
  have hx := B.exec
  have hb := B.bytes
  have hr := B.returns
  have hts : ∀ w ∈ lw_good, w.before _ s = true := fun w h => atoms_spec (ws := wx y_So_require b_So_require 2 none) B.pre w (List.mem_cons_of_mem _ h)
  have hown : s.vm.findClass R_So = some m.cls := findClass_of_methodNamed B.named
  have hlocks := B.notSynchronized
  have htr9 : e.platform.stackTraces = false := by rw [B.admits.platform]; exact htr
  subst hsz
  have hNS := xx_nostat hP
  have hD := hD0.self (sz := s.heap.size)
  generalize hAe : va_A [(so, .inr (3, [.ref sb, .int (nI a), .int (nI lm), .int (bI fl)])), (sb, .inl (cB, 2000, .inl f))] s.heap.size = A at hD hE hNS ⊢
  have hA : ∀ q : Nat, s.heap.size ≤ q → A q := fun q h => by rw [← hAe]; exact Or.inr h
  have hS : va_S A s.heap s.heap [] := va_S.rf
  have hl := lv_entry ([.ref so, .int n]) (n := 2) (Nat.le_of_ble_eq_true rfl)
  rw [lg_entry_eq]
  generalize (lg_sl ([.ref so, .int n]) ++ List.replicate (2 - (lg_sl ([.ref so, .int n])).length) Slot.unset).toArray = ls at hl ⊢
  have hl : lv_has ls 2 [(0, .ref so), (1, .int n)] := hl
  refine lv_aload_n hx hb d_So_require_0 rfl (lv_at hl 0 rfl) ?_
  refine xx_callV (wc := [(so, .inr (3, [.ref sb, .int (nI a), .int (nI lm), .int (bI fl)])), (sb, .inl (cB, 2000, .inl f))]) (wr := []) (As := []) (rest := []) ⟨hx, hb, hml, hown, hts⟩ xE_st hK hE hA (c_So_octet l htr G cB cI cJ cZ so sb f a lm fl (by omega) (by omega) _) (xw_V 0 hts m_600 m_601 m_602 m_3 m_603 (by decide +kernel) ⟨(Nat.le_of_ble_eq_true rfl), (Nat.le_of_ble_eq_true rfl)⟩) hP hD hS [0, 1] [] rfl rfl (by decide) (by decide) (by decide) 0 3 rfl rfl rfl rfl hl.1 rfl (Nat.le_of_ble_eq_true rfl) d_So_require_1 ⟨(Nat.le_of_ble_eq_true rfl), (Nat.le_of_ble_eq_true rfl)⟩ (fun v9 w9 H locs hp hP hD hS => ?_) (fun x9 w9 H9 l9 hp _ _ _ => absurd hp (by rintro ⟨ho, -⟩; cases ho))
  obtain ⟨ho, rfl⟩ := hp
  cases ho
  have hP : va_P G classes [(so, .inr (3, [.ref sb, .int (nI (sAt a lm fl)), .int (nI lm), .int (bI (sFl a lm fl))])), (sb, .inl (cB, 2000, .inl f))] H := hP
  have hD : va_D A [(so, .inr (3, [.ref sb, .int (nI (sAt a lm fl)), .int (nI lm), .int (bI (sFl a lm fl))])), (sb, .inl (cB, 2000, .inl f))] := hD
  refine lv_iload_n hx hb d_So_require_4 rfl (lv_at hl 1 rfl) ?_
  refine lv_icmp_eq (tgt := 13) hx hb d_So_require_5 (by decide) (fun c_1 => ?_) (fun c_1 => ?_)
  · have e9 : ([(so, .inr (3, [.ref sb, .int (nI (sAt a lm fl)), .int (nI lm), .int (bI (sReq f a lm fl n))])), (sb, .inl (cB, 2000, .inl f))] : va_W) = [(so, .inr (3, [.ref sb, .int (nI (sAt a lm fl)), .int (nI lm), .int (bI (sFl a lm fl))])), (sb, .inl (cB, 2000, .inl f))] := by rw [show (bI (sReq f a lm fl n) : Int32) = (bI (sFl a lm fl)) from by first | (simp [bI, sReq, c_1]; done) | (exfalso; simp_all; done)]
    rw [← e9] at hP hD
    exact ex_W (fun _ h => ex_mq h) (W.vret hx hb hr (fun t ht hW => ⟨⟨_, ⟨rfl, rfl⟩, by rw [ht]; exact hP, hD⟩, hS.F ht⟩) hS.2.2 d_So_require_13)
  · refine lv_aload_n hx hb d_So_require_8 rfl (lv_at hl 0 rfl) ?_
    refine lv_iconst (v := 1) hx hb d_So_require_9 (by decide) ?_
    refine va_put (D := G) (ci := 3) (v := .int 1) (ty := .boolean) (C := R_So) (T := F_So) (N := 4) hx hb hts i_So t_So t_So_ok n_So hown hK hP hD hS 0 rfl rfl 3 (by decide) (hts _ m_51) (fun _ h9 => h9) rfl (by decide +kernel) rfl rfl (Nat.le_of_ble_eq_true rfl) d_So_require_10 (fun H locs hP hD hS => ?_)
    have hP : va_P G classes [(so, .inr (3, [.ref sb, .int (nI (sAt a lm fl)), .int (nI lm), .int 1])), (sb, .inl (cB, 2000, .inl f))] H := hP
    have hD : va_D A [(so, .inr (3, [.ref sb, .int (nI (sAt a lm fl)), .int (nI lm), .int 1])), (sb, .inl (cB, 2000, .inl f))] := hD
    have e9 : ([(so, .inr (3, [.ref sb, .int (nI (sAt a lm fl)), .int (nI lm), .int (bI (sReq f a lm fl n))])), (sb, .inl (cB, 2000, .inl f))] : va_W) = [(so, .inr (3, [.ref sb, .int (nI (sAt a lm fl)), .int (nI lm), .int 1])), (sb, .inl (cB, 2000, .inl f))] := by rw [show (bI (sReq f a lm fl n) : Int32) = 1 from by first | (simp [bI, sReq, c_1]; done) | (exfalso; simp_all; done)]
    rw [← e9] at hP hD
    exact ex_W (fun _ h => ex_mq h) (W.vret hx hb hr (fun t ht hW => ⟨⟨_, ⟨rfl, rfl⟩, by rw [ht]; exact hP, hD⟩, hS.F ht⟩) hS.2.2 d_So_require_13)
set_option maxHeartbeats 8000000 in
set_option maxRecDepth 100000 in
theorem c_So_fail (l : Launch) (htr : l.stackTraces = false) (G : va_G) (cB cI cJ cZ : ClassId) (so : Nat) (sb : Nat) (a : Nat) (lm : Nat) (fl : Bool) (ha : a ≤ 2000) (hl9 : lm ≤ 2000) (sz : Nat) : MetX l y_So_fail (wx y_So_fail b_So_fail 1 none) { frames := 0, cells := 0, slots := 0, locals := 0 } (XP G classes (xtys cB cI cJ cZ) xE [.ref so] [(so, .inr (3, [.ref sb, .int (nI a), .int (nI lm), .int (bI fl)]))] sz) (XQ G classes (va_A [(so, .inr (3, [.ref sb, .int (nI a), .int (nI lm), .int (bI fl)]))] sz) (fun o w1 => o = .returned none ∧ w1 = [(so, .inr (3, [.ref sb, .int (nI a), .int (nI lm), .int (bI true)]))])) 0 0 (va_A [(so, .inr (3, [.ref sb, .int (nI a), .int (nI lm), .int (bI fl)]))] sz) := by
  refine ex_ofW (cc := b_So_fail) (maxL := 1) (ret := none) (by decide) rfl ?_
  intro p e s m args below meth c s₁ B hml hno hv
  obtain ⟨rfl, hsz, hP, hK, hD0, hE⟩ := hv
  have hx := B.exec
  have hb := B.bytes
  have hr := B.returns
  have hts : ∀ w ∈ lw_good, w.before _ s = true := fun w h => atoms_spec (ws := wx y_So_fail b_So_fail 1 none) B.pre w (List.mem_cons_of_mem _ h)
  have hown : s.vm.findClass R_So = some m.cls := findClass_of_methodNamed B.named
  have hlocks := B.notSynchronized
  have htr9 : e.platform.stackTraces = false := by rw [B.admits.platform]; exact htr
  subst hsz
  have hNS := xx_nostat hP
  have hD := hD0.self (sz := s.heap.size)
  generalize hAe : va_A [(so, .inr (3, [.ref sb, .int (nI a), .int (nI lm), .int (bI fl)]))] s.heap.size = A at hD hE hNS ⊢
  have hA : ∀ q : Nat, s.heap.size ≤ q → A q := fun q h => by rw [← hAe]; exact Or.inr h
  have hS : va_S A s.heap s.heap [] := va_S.rf
  have hl := lv_entry ([.ref so]) (n := 1) (Nat.le_of_ble_eq_true rfl)
  rw [lg_entry_eq]
  generalize (lg_sl ([.ref so]) ++ List.replicate (1 - (lg_sl ([.ref so])).length) Slot.unset).toArray = ls at hl ⊢
  have hl : lv_has ls 1 [(0, .ref so)] := hl
  refine lv_aload_n hx hb d_So_fail_0 rfl (lv_at hl 0 rfl) ?_
  refine lv_iconst (v := 1) hx hb d_So_fail_1 (by decide) ?_
  refine va_put (D := G) (ci := 3) (v := .int 1) (ty := .boolean) (C := R_So) (T := F_So) (N := 4) hx hb hts i_So t_So t_So_ok n_So hown hK hP hD hS 0 rfl rfl 3 (by decide) (hts _ m_51) (fun _ h9 => h9) rfl (by decide +kernel) rfl rfl (Nat.le_of_ble_eq_true rfl) d_So_fail_2 (fun H locs hP hD hS => ?_)
  have hP : va_P G classes [(so, .inr (3, [.ref sb, .int (nI a), .int (nI lm), .int 1]))] H := hP
  have hD : va_D A [(so, .inr (3, [.ref sb, .int (nI a), .int (nI lm), .int 1]))] := hD
  have e9 : ([(so, .inr (3, [.ref sb, .int (nI a), .int (nI lm), .int (bI true)]))] : va_W) = [(so, .inr (3, [.ref sb, .int (nI a), .int (nI lm), .int 1]))] := by rw [show (bI true : Int32) = 1 from by first | (simp [bI, sOct, sAt, sFl]; done) | (exfalso; simp_all; done)]
  rw [← e9] at hP hD
  exact ex_W (fun _ h => ex_mq h) (W.vret hx hb hr (fun t ht hW => ⟨⟨_, ⟨rfl, rfl⟩, by rw [ht]; exact hP, hD⟩, hS.F ht⟩) hS.2.2 d_So_fail_5)
set_option maxHeartbeats 8000000 in
set_option maxRecDepth 100000 in
theorem c_So_hasFailed (l : Launch) (htr : l.stackTraces = false) (G : va_G) (cB cI cJ cZ : ClassId) (so : Nat) (sb : Nat) (a : Nat) (lm : Nat) (fl : Bool) (ha : a ≤ 2000) (hl9 : lm ≤ 2000) (sz : Nat) : MetX l y_So_hasFailed (wx y_So_hasFailed b_So_hasFailed 1 (some .boolean)) { frames := 0, cells := 0, slots := 0, locals := 0 } (XP G classes (xtys cB cI cJ cZ) xE [.ref so] [(so, .inr (3, [.ref sb, .int (nI a), .int (nI lm), .int (bI fl)]))] sz) (XQ G classes (va_A [(so, .inr (3, [.ref sb, .int (nI a), .int (nI lm), .int (bI fl)]))] sz) (fun o w1 => o = .returned (some (.int (bI fl))) ∧ w1 = [(so, .inr (3, [.ref sb, .int (nI a), .int (nI lm), .int (bI fl)]))])) 0 0 (va_A [(so, .inr (3, [.ref sb, .int (nI a), .int (nI lm), .int (bI fl)]))] sz) := by
  refine ex_ofW (cc := b_So_hasFailed) (maxL := 1) (ret := (some .boolean)) (by decide) rfl ?_
  intro p e s m args below meth c s₁ B hml hno hv
  obtain ⟨rfl, hsz, hP, hK, hD0, hE⟩ := hv
  have hx := B.exec
  have hb := B.bytes
  have hr := B.returns
  have hts : ∀ w ∈ lw_good, w.before _ s = true := fun w h => atoms_spec (ws := wx y_So_hasFailed b_So_hasFailed 1 (some .boolean)) B.pre w (List.mem_cons_of_mem _ h)
  have hown : s.vm.findClass R_So = some m.cls := findClass_of_methodNamed B.named
  have hlocks := B.notSynchronized
  have htr9 : e.platform.stackTraces = false := by rw [B.admits.platform]; exact htr
  subst hsz
  have hNS := xx_nostat hP
  have hD := hD0.self (sz := s.heap.size)
  generalize hAe : va_A [(so, .inr (3, [.ref sb, .int (nI a), .int (nI lm), .int (bI fl)]))] s.heap.size = A at hD hE hNS ⊢
  have hA : ∀ q : Nat, s.heap.size ≤ q → A q := fun q h => by rw [← hAe]; exact Or.inr h
  have hS : va_S A s.heap s.heap [] := va_S.rf
  have hl := lv_entry ([.ref so]) (n := 1) (Nat.le_of_ble_eq_true rfl)
  rw [lg_entry_eq]
  generalize (lg_sl ([.ref so]) ++ List.replicate (1 - (lg_sl ([.ref so])).length) Slot.unset).toArray = ls at hl ⊢
  have hl : lv_has ls 1 [(0, .ref so)] := hl
  refine lv_aload_n hx hb d_So_hasFailed_0 rfl (lv_at hl 0 rfl) ?_
  refine va_get (D := G) (ci := 3) (v := .int (bI fl)) (C := R_So) (T := F_So) (N := 4) hx hb hts i_So hown hK hP 0 rfl rfl 3 (by decide) (hts _ m_51) (fun _ h9 => h9) rfl d_So_hasFailed_1 ?_
  exact ex_W (fun _ h => ex_mq h) (W.zret (v := bI fl) hx hb hr (bI_nar _) (fun t ht hW => ⟨⟨_, ⟨rfl, rfl⟩, by rw [ht]; exact hP, hD⟩, hS.F ht⟩) hS.2.2 d_So_hasFailed_4)
set_option maxHeartbeats 8000000 in
set_option maxRecDepth 100000 in
theorem c_So_hasMore (l : Launch) (htr : l.stackTraces = false) (G : va_G) (cB cI cJ cZ : ClassId) (so : Nat) (sb : Nat) (a : Nat) (lm : Nat) (fl : Bool) (ha : a ≤ 2000) (hl9 : lm ≤ 2000) (sz : Nat) : MetX l y_So_hasMore (wx y_So_hasMore b_So_hasMore 1 (some .boolean)) { frames := 0, cells := 0, slots := 0, locals := 0 } (XP G classes (xtys cB cI cJ cZ) xE [.ref so] [(so, .inr (3, [.ref sb, .int (nI a), .int (nI lm), .int (bI fl)]))] sz) (XQ G classes (va_A [(so, .inr (3, [.ref sb, .int (nI a), .int (nI lm), .int (bI fl)]))] sz) (fun o w1 => o = .returned (some (.int (bI (!fl && decide (a < lm))))) ∧ w1 = [(so, .inr (3, [.ref sb, .int (nI a), .int (nI lm), .int (bI fl)]))])) 0 0 (va_A [(so, .inr (3, [.ref sb, .int (nI a), .int (nI lm), .int (bI fl)]))] sz) := by
  refine ex_ofW (cc := b_So_hasMore) (maxL := 1) (ret := (some .boolean)) (by decide) rfl ?_
  intro p e s m args below meth c s₁ B hml hno hv
  obtain ⟨rfl, hsz, hP, hK, hD0, hE⟩ := hv
  have hx := B.exec
  have hb := B.bytes
  have hr := B.returns
  have hts : ∀ w ∈ lw_good, w.before _ s = true := fun w h => atoms_spec (ws := wx y_So_hasMore b_So_hasMore 1 (some .boolean)) B.pre w (List.mem_cons_of_mem _ h)
  have hown : s.vm.findClass R_So = some m.cls := findClass_of_methodNamed B.named
  have hlocks := B.notSynchronized
  have htr9 : e.platform.stackTraces = false := by rw [B.admits.platform]; exact htr
  subst hsz
  have hNS := xx_nostat hP
  have hD := hD0.self (sz := s.heap.size)
  generalize hAe : va_A [(so, .inr (3, [.ref sb, .int (nI a), .int (nI lm), .int (bI fl)]))] s.heap.size = A at hD hE hNS ⊢
  have hA : ∀ q : Nat, s.heap.size ≤ q → A q := fun q h => by rw [← hAe]; exact Or.inr h
  have hS : va_S A s.heap s.heap [] := va_S.rf
  have hl := lv_entry ([.ref so]) (n := 1) (Nat.le_of_ble_eq_true rfl)
  rw [lg_entry_eq]
  generalize (lg_sl ([.ref so]) ++ List.replicate (1 - (lg_sl ([.ref so])).length) Slot.unset).toArray = ls at hl ⊢
  have hl : lv_has ls 1 [(0, .ref so)] := hl
  refine lv_aload_n hx hb d_So_hasMore_0 rfl (lv_at hl 0 rfl) ?_
  refine va_get (D := G) (ci := 3) (v := .int (bI fl)) (C := R_So) (T := F_So) (N := 4) hx hb hts i_So hown hK hP 0 rfl rfl 3 (by decide) (hts _ m_51) (fun _ h9 => h9) rfl d_So_hasMore_1 ?_
  refine lv_if_ne (tgt := 22) hx hb d_So_hasMore_4 (by decide) (fun c_1 => ?_) (fun c_1 => ?_)
  · have c_1 : fl = true := bI_t c_1
    refine lv_iconst (v := 0) hx hb d_So_hasMore_22 (by decide) ?_
    exact ex_W (fun _ h => ex_mq h) (W.zret (v := 0) hx hb hr rfl (fun t ht hW => ⟨⟨_, ⟨congrArg (fun z => Outcome.returned (some (Value.int z))) (by first | (simp [bI, sOct, sAt, sFl, c_1]; done) | (exfalso; simp_all; done)), rfl⟩, by rw [ht]; exact hP, hD⟩, hS.F ht⟩) hS.2.2 d_So_hasMore_23)
  · have c_1 : fl = false := bI_f c_1
    refine lv_aload_n hx hb d_So_hasMore_7 rfl (lv_at hl 0 rfl) ?_
    refine va_get (D := G) (ci := 3) (v := .int (nI a)) (C := R_So) (T := F_So) (N := 4) hx hb hts i_So hown hK hP 0 rfl rfl 1 (by decide) (hts _ m_49) (fun _ h9 => h9) rfl d_So_hasMore_8 ?_
    refine lv_aload_n hx hb d_So_hasMore_11 rfl (lv_at hl 0 rfl) ?_
    refine va_get (D := G) (ci := 3) (v := .int (nI lm)) (C := R_So) (T := F_So) (N := 4) hx hb hts i_So hown hK hP 0 rfl rfl 2 (by decide) (hts _ m_50) (fun _ h9 => h9) rfl d_So_hasMore_12 ?_
    refine lv_icmp_ge (tgt := 22) hx hb d_So_hasMore_15 (by decide) (fun c_2 => ?_) (fun c_2 => ?_)
    · have c_2 : lm ≤ a := (nI_leI (a := lm) (b := a) (by omega) (by omega)).mp c_2
      refine lv_iconst (v := 0) hx hb d_So_hasMore_22 (by decide) ?_
      exact ex_W (fun _ h => ex_mq h) (W.zret (v := 0) hx hb hr rfl (fun t ht hW => ⟨⟨_, ⟨congrArg (fun z => Outcome.returned (some (Value.int z))) (by first | (simp [bI, sOct, sAt, sFl, c_1, c_2]; done) | (exfalso; simp_all; done)), rfl⟩, by rw [ht]; exact hP, hD⟩, hS.F ht⟩) hS.2.2 d_So_hasMore_23)
    · have c_2 : ¬ lm ≤ a := fun q => c_2 ((nI_leI (a := lm) (b := a) (by omega) (by omega)).mpr q)
      refine lv_iconst (v := 1) hx hb d_So_hasMore_18 (by decide) ?_
      refine lv_goto (tgt := 23) hx hb d_So_hasMore_19 (by decide) ?_
      exact ex_W (fun _ h => ex_mq h) (W.zret (v := 1) hx hb hr rfl (fun t ht hW => ⟨⟨_, ⟨congrArg (fun z => Outcome.returned (some (Value.int z))) (by first | (simp [bI, sOct, sAt, sFl, c_1, c_2]; done) | (exfalso; simp_all; done)), rfl⟩, by rw [ht]; exact hP, hD⟩, hS.F ht⟩) hS.2.2 d_So_hasMore_23)
