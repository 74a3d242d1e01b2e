abbrev KWr : Type := Int × Int × Bool × Int
abbrev KWr.tapeLength (z : KWr) : Int := z.1
abbrev KWr.argumentCount (z : KWr) : Int := z.2.1
abbrev KWr.loaded (z : KWr) : Bool := z.2.2.1
abbrev KWr.reason (z : KWr) : Int := z.2.2.2
abbrev KWr.mk (tapeLength : Int) (argumentCount : Int) (loaded : Bool) (reason : Int) : KWr := (tapeLength, argumentCount, loaded, reason)
def KWr.Ok (z : KWr) : Prop := (R32 z.tapeLength) ∧ (R32 z.argumentCount) ∧ (R32 z.reason)
theorem KWr.Ok.tapeLength {z : KWr} (h : KWr.Ok z) : R32 z.tapeLength := h.1
theorem KWr.Ok.argumentCount {z : KWr} (h : KWr.Ok z) : R32 z.argumentCount := h.2.1
theorem KWr.Ok.reason {z : KWr} (h : KWr.Ok z) : R32 z.reason := h.2.2
theorem KWr.Ok.mk {z : KWr} (h0 : R32 z.tapeLength) (h1 : R32 z.argumentCount) (h2 : R32 z.reason) : KWr.Ok z := ⟨h0, h1, h2⟩
abbrev KOu : Type := (Nat → Int64)
abbrev KOu.out_ (z : KOu) : Nat → Int64 := z
abbrev KOu.mk (out_ : Nat → Int64) : KOu := out_
def KOu.Ok (z : KOu) : Prop := True
theorem KOu.Ok.mk {z : KOu}  : KOu.Ok z := trivial
noncomputable def L3_WR_putInt (fu : Nat) (v_four : Int32) : Nat → KSo → KWr → Int → Out Empty (KSo × KWr × Int)
  | 0, _, _, _ => .bad
  | n_1 + 1, zSo_6, zWr_7, w_shift_8 => if w_shift_8 < 0 then (.ret (zSo_6, zWr_7, w_shift_8)) else (if 0 ≤ zWr_7.tapeLength ∧ zWr_7.tapeLength < 2000 then if R32 (zWr_7.tapeLength + 1) then if R32 (w_shift_8 + (-8)) then L3_WR_putInt fu v_four n_1 (KSo.mk zSo_6.at_ zSo_6.limit zSo_6.failed (upd zSo_6.bytes zWr_7.tapeLength.toNat ((v_four >>> ((iI w_shift_8) &&& 31)).toInt8.toInt32))) (KWr.mk (zWr_7.tapeLength + 1) zWr_7.argumentCount zWr_7.loaded zWr_7.reason) (w_shift_8 + (-8)) else .bad else .bad else .bad)
noncomputable def f_WR_putInt (fu : Nat) (zSo : KSo) (zWr : KWr) (v_four : Int32) : Out Empty (KSo × KWr) := obind (L3_WR_putInt fu v_four fu zSo zWr 24) (fun (y_5 : KSo × KWr × Int) => .ret (y_5.1, y_5.2.1))
noncomputable def f_WR_requireModule (zWr : KWr) : Out (Nat) (Unit) := if zWr.loaded = true then (.ret ()) else (.thr 16)
noncomputable def f_WR_requireRange (v_number : Int) (v_bound : Int) : Out (Nat) (Unit) := jp (fun (y_1 : Unit) => (.thr 14 : Out (Nat) (Unit))) (fun K_2 => if v_number < 0 then (K_2 ()) else (if v_number < v_bound then (.ret ()) else (K_2 ())))
abbrev b_WR_putInt : ByteArray := prog_1_method_11_code
def y_WR_putInt : MethodName := ⟨R_WR, "putInt", "(I)V"⟩
abbrev b_WR_requireModule : ByteArray := prog_1_method_12_code
def y_WR_requireModule : MethodName := ⟨R_WR, "requireModule", "()V"⟩
abbrev b_WR_requireRange : ByteArray := prog_1_method_13_code
def y_WR_requireRange : MethodName := ⟨R_WR, "requireRange", "(II)V"⟩
theorem d_WR_putInt_0 : decode b_WR_putInt 0 = .ok (.bipush 24, 2) := by decide +kernel
theorem d_WR_putInt_2 : decode b_WR_putInt 2 = .ok (.istore_n 2, 1) := by decide +kernel
theorem d_WR_putInt_3 : decode b_WR_putInt 3 = .ok (.iload_n 2, 1) := by decide +kernel
theorem d_WR_putInt_4 : decode b_WR_putInt 4 = .ok (.ifCond .lt 32, 3) := by decide +kernel
theorem d_WR_putInt_7 : decode b_WR_putInt 7 = .ok (.aload_n 0, 1) := by decide +kernel
theorem d_WR_putInt_8 : decode b_WR_putInt 8 = .ok (.getfield 9, 3) := by decide +kernel
theorem d_WR_putInt_11 : decode b_WR_putInt 11 = .ok (.aload_n 0, 1) := by decide +kernel
theorem d_WR_putInt_12 : decode b_WR_putInt 12 = .ok (.getfield 48, 3) := by decide +kernel
theorem d_WR_putInt_15 : decode b_WR_putInt 15 = .ok (.iload_n 1, 1) := by decide +kernel
theorem d_WR_putInt_16 : decode b_WR_putInt 16 = .ok (.iload_n 2, 1) := by decide +kernel
theorem d_WR_putInt_17 : decode b_WR_putInt 17 = .ok (.ishr, 1) := by decide +kernel
theorem d_WR_putInt_18 : decode b_WR_putInt 18 = .ok (.i2b, 1) := by decide +kernel
theorem d_WR_putInt_19 : decode b_WR_putInt 19 = .ok (.bastore, 1) := by decide +kernel
theorem d_WR_putInt_20 : decode b_WR_putInt 20 = .ok (.aload_n 0, 1) := by decide +kernel
theorem d_WR_putInt_21 : decode b_WR_putInt 21 = .ok (.dup, 1) := by decide +kernel
theorem d_WR_putInt_22 : decode b_WR_putInt 22 = .ok (.getfield 48, 3) := by decide +kernel
theorem d_WR_putInt_25 : decode b_WR_putInt 25 = .ok (.iconst 1, 1) := by decide +kernel
theorem d_WR_putInt_26 : decode b_WR_putInt 26 = .ok (.iadd, 1) := by decide +kernel
theorem d_WR_putInt_27 : decode b_WR_putInt 27 = .ok (.putfield 48, 3) := by decide +kernel
theorem d_WR_putInt_30 : decode b_WR_putInt 30 = .ok (.iinc 2 (-8), 3) := by decide +kernel
theorem d_WR_putInt_33 : decode b_WR_putInt 33 = .ok (.goto (-30), 3) := by decide +kernel
theorem d_WR_putInt_36 : decode b_WR_putInt 36 = .ok (.return_, 1) := by decide +kernel
theorem d_WR_requireModule_0 : decode b_WR_requireModule 0 = .ok (.aload_n 0, 1) := by decide +kernel
theorem d_WR_requireModule_1 : decode b_WR_requireModule 1 = .ok (.getfield 84, 3) := by decide +kernel
theorem d_WR_requireModule_4 : decode b_WR_requireModule 4 = .ok (.ifCond .ne 13, 3) := by decide +kernel
theorem d_WR_requireModule_7 : decode b_WR_requireModule 7 = .ok (.new 154, 3) := by decide +kernel
theorem d_WR_requireModule_10 : decode b_WR_requireModule 10 = .ok (.dup, 1) := by decide +kernel
theorem d_WR_requireModule_11 : decode b_WR_requireModule 11 = .ok (.ldc 156, 2) := by decide +kernel
theorem d_WR_requireModule_13 : decode b_WR_requireModule 13 = .ok (.invokespecial 158, 3) := by decide +kernel
theorem d_WR_requireModule_16 : decode b_WR_requireModule 16 = .ok (.athrow, 1) := by decide +kernel
theorem d_WR_requireModule_17 : decode b_WR_requireModule 17 = .ok (.return_, 1) := by decide +kernel
theorem d_WR_requireRange_0 : decode b_WR_requireRange 0 = .ok (.iload_n 0, 1) := by decide +kernel
theorem d_WR_requireRange_1 : decode b_WR_requireRange 1 = .ok (.ifCond .lt 8, 3) := by decide +kernel
theorem d_WR_requireRange_4 : decode b_WR_requireRange 4 = .ok (.iload_n 0, 1) := by decide +kernel
theorem d_WR_requireRange_5 : decode b_WR_requireRange 5 = .ok (.iload_n 1, 1) := by decide +kernel
theorem d_WR_requireRange_6 : decode b_WR_requireRange 6 = .ok (.if_icmp .lt 13, 3) := by decide +kernel
theorem d_WR_requireRange_9 : decode b_WR_requireRange 9 = .ok (.new 63, 3) := by decide +kernel
theorem d_WR_requireRange_12 : decode b_WR_requireRange 12 = .ok (.dup, 1) := by decide +kernel
theorem d_WR_requireRange_13 : decode b_WR_requireRange 13 = .ok (.ldc 159, 2) := by decide +kernel
theorem d_WR_requireRange_15 : decode b_WR_requireRange 15 = .ok (.invokespecial 67, 3) := by decide +kernel
theorem d_WR_requireRange_18 : decode b_WR_requireRange 18 = .ok (.athrow, 1) := by decide +kernel
theorem d_WR_requireRange_19 : decode b_WR_requireRange 19 = .ok (.return_, 1) := by decide +kernel
theorem m_419 : Cond.fieldLink R_WR 48 "WaferRunner" "tapeLength" "I" ∈ lw_good := lw_in (List.mem_append_right _ (List.mem_of_getElem? (i := 419) (by decide +kernel))) (by decide +kernel)
theorem m_427 : Cond.fieldLink R_WR 84 "WaferRunner" "loaded" "Z" ∈ lw_good := lw_in (List.mem_append_right _ (List.mem_of_getElem? (i := 427) (by decide +kernel))) (by decide +kernel)
theorem m_924 : Cond.classLink R_WR 154 "java/lang/IllegalStateException" ∈ lw_good := lw_in (List.mem_append_right _ (List.mem_of_getElem? (i := 924) (by decide +kernel))) (by decide +kernel)
theorem m_925 : Cond.instantiable "java/lang/IllegalStateException" 6 ∈ lw_good := lw_in (List.mem_append_right _ (List.mem_of_getElem? (i := 925) (by decide +kernel))) (by decide +kernel)
theorem m_23 : Cond.initialized "java/lang/IllegalStateException" ∈ lw_good := lw_in (List.mem_append_right _ (List.mem_of_getElem? (i := 23) (by decide +kernel))) (by decide +kernel)
theorem m_554 : Cond.classLink R_WR 63 "java/lang/IllegalArgumentException" ∈ lw_good := lw_in (List.mem_append_right _ (List.mem_of_getElem? (i := 554) (by decide +kernel))) (by decide +kernel)
theorem m_555 : Cond.instantiable "java/lang/IllegalArgumentException" 6 ∈ lw_good := lw_in (List.mem_append_right _ (List.mem_of_getElem? (i := 555) (by decide +kernel))) (by decide +kernel)
theorem m_18 : Cond.initialized "java/lang/IllegalArgumentException" ∈ lw_good := lw_in (List.mem_append_right _ (List.mem_of_getElem? (i := 18) (by decide +kernel))) (by decide +kernel)
theorem tx_156 : (R_WR, 156, "there is no module") ∈ xtexts := by decide +kernel
theorem tx_159 : (R_WR, 159, "a number out of range") ∈ xtexts := by decide +kernel
theorem at_R_WR_158 : ∀ w ∈ Bundle.ownAtoms R_WR 158 "java/lang/IllegalStateException" ["java/lang/RuntimeException", "java/lang/Exception"], xE_in w := by unfold xE_in; decide +kernel
theorem at_R_WR_67 : ∀ w ∈ Bundle.ownAtoms R_WR 67 "java/lang/IllegalArgumentException" ["java/lang/RuntimeException", "java/lang/Exception"], xE_in w := by unfold xE_in; decide +kernel
set_option maxHeartbeats 8000000 in
set_option maxRecDepth 100000 in
theorem k_WR_requireModule (l : Launch) (htr : l.stackTraces = false) (G : va_G) (cB cI cJ cZ cG : ClassId) (aWR : Nat) (aTp : Nat) (aAr : Nat) (aRd : Nat) (aVa : Nat) (aMa : Nat) (aWa : Nat) (aW2 : Nat) (zWr : KWr) (hzWr : KWr.Ok zWr) (R9 : Out (Nat) (Unit)) (hf : f_WR_requireModule zWr = R9) (hnb : R9 ≠ .bad) (sz : Nat) : MetX l y_WR_requireModule (wx y_WR_requireModule b_WR_requireModule 1 none) { frames := 6, cells := 1, slots := 6, locals := 90 } (XP G classes (xtys cB cI cJ cZ cG) xE [.ref aWR] [(aWR, .inr (0, [.ref aTp, .int (iI zWr.tapeLength), .ref aAr, .int (iI zWr.argumentCount), .ref aRd, .ref aVa, .ref aMa, .ref aWa, .ref aW2, .int (bI zWr.loaded), .int (iI zWr.reason)]))] sz) (XQ G classes (va_A [(aWR, .inr (0, [.ref aTp, .int (iI zWr.tapeLength), .ref aAr, .int (iI zWr.argumentCount), .ref aRd, .ref aVa, .ref aMa, .ref aWa, .ref aW2, .int (bI zWr.loaded), .int (iI zWr.reason)]))] sz) (fun o w1 => ozp R9 (fun x9 => (True) ∧ o = .returned none ∧ w1 = [(aWR, .inr (0, [.ref aTp, .int (iI zWr.tapeLength), .ref aAr, .int (iI zWr.argumentCount), .ref aRd, .ref aVa, .ref aMa, .ref aWa, .ref aW2, .int (bI zWr.loaded), .int (iI zWr.reason)]))]) (fun t9 => ∃ x9e : Nat, (True) ∧ o = .threw x9e ∧ w1 = [(aWR, .inr (0, [.ref aTp, .int (iI zWr.tapeLength), .ref aAr, .int (iI zWr.argumentCount), .ref aRd, .ref aVa, .ref aMa, .ref aWa, .ref aW2, .int (bI zWr.loaded), .int (iI zWr.reason)])), (x9e, .inr (t9, []))]))) 1 6 (va_A [(aWR, .inr (0, [.ref aTp, .int (iI zWr.tapeLength), .ref aAr, .int (iI zWr.argumentCount), .ref aRd, .ref aVa, .ref aMa, .ref aWa, .ref aW2, .int (bI zWr.loaded), .int (iI zWr.reason)]))] sz) := by
  refine ex_ofW (cc := b_WR_requireModule) (maxL := 1) (ret := none) (by decide) rfl ?_
  intro p e s m args below meth c s₁ B hml hno hv
  obtain ⟨rfl, hsz, hP, hK, hD0, hE⟩ := hv
  have hx := B.exec
  have hb := B.bytes
  have hr := B.returns
  have hts : ∀ w ∈ lw_good, w.before _ s = true := fun w h => atoms_spec (ws := wx y_WR_requireModule b_WR_requireModule 1 none) B.pre w (List.mem_cons_of_mem _ h)
  have hown : s.vm.findClass R_WR = some m.cls := findClass_of_methodNamed B.named
  have hlocks := B.notSynchronized
  have htr9 : e.platform.stackTraces = false := by rw [B.admits.platform]; exact htr
  subst hsz
  have hNS := xx_nostat hP
  have hD := hD0.self (sz := s.heap.size)
  generalize hAe : va_A [(aWR, .inr (0, [.ref aTp, .int (iI zWr.tapeLength), .ref aAr, .int (iI zWr.argumentCount), .ref aRd, .ref aVa, .ref aMa, .ref aWa, .ref aW2, .int (bI zWr.loaded), .int (iI zWr.reason)]))] s.heap.size = A at hD hE hNS ⊢
  have hA : ∀ q : Nat, s.heap.size ≤ q → A q := fun q h => by rw [← hAe]; exact Or.inr h
  have hS : va_S A s.heap s.heap [] := va_S.rf
  have hl := lv_entry ([.ref aWR]) (n := 1) (Nat.le_of_ble_eq_true rfl)
  rw [lg_entry_eq]
  generalize (lg_sl ([.ref aWR]) ++ List.replicate (1 - (lg_sl ([.ref aWR])).length) Slot.unset).toArray = ls at hl ⊢
  have hl : lv_has ls 1 [(0, .ref aWR)] := hl
  unfold f_WR_requireModule at hf
  refine lv_aload_n hx hb d_WR_requireModule_0 rfl (lv_at hl 0 rfl) ?_
  refine va_get (D := G) (ci := 0) (v := .int (bI zWr.loaded)) (C := R_WR) (T := F_WR) (N := 11) hx hb hts i_WR hown hK hP 0 rfl rfl 9 (by decide) (hts _ m_427) (fun _ h9 => h9) rfl d_WR_requireModule_1 ?_
  refine lv_if_ne (tgt := 17) hx hb d_WR_requireModule_4 (by decide) (fun c_1 => ?_) (fun c_1 => ?_)
  · have c_1 := (zb_t c_1)
    replace hf := ifp c_1 hf
    refine W.widen (k := 1) (n := 6) (Nat.le_of_ble_eq_true rfl) (Nat.le_of_ble_eq_true rfl) ?_
    exact ex_W (fun _ h => ex_mq h) (W.vret hx hb hr (fun t ht hW => ⟨⟨_, ozr hf ⟨trivial, rfl, rfl⟩, by rw [ht]; exact hP, hD⟩, hS.F ht⟩) hS.2.2 d_WR_requireModule_17)
  · have c_1 := (zb_f c_1)
    replace hf := ifn c_1 hf
    obtain ⟨qs, hZ⟩ := xE_text hE tx_156
    refine xx_throwNew (cls := "java/lang/IllegalStateException") (names := ["java/lang/RuntimeException", "java/lang/Exception"]) (own := R_WR) hx htr9 hb hml hown (hts _ m_924) (hts _ m_925) (hts _ m_23) hZ (xE_atoms hE hts at_R_WR_158) (by decide +kernel) (by decide +kernel) hK 16 rfl hP hD hS hA hNS hl.1 d_WR_requireModule_7 d_WR_requireModule_10 d_WR_requireModule_11 d_WR_requireModule_13 d_WR_requireModule_16 (Nat.le_of_ble_eq_true rfl) (Nat.le_of_ble_eq_true rfl) (Nat.le_of_ble_eq_true rfl) (Nat.le_of_ble_eq_true rfl) (fun x_2 H locs hP hD hS => ?_)
    replace hP : va_P G classes [(aWR, .inr (0, [.ref aTp, .int (iI zWr.tapeLength), .ref aAr, .int (iI zWr.argumentCount), .ref aRd, .ref aVa, .ref aMa, .ref aWa, .ref aW2, .int (bI zWr.loaded), .int (iI zWr.reason)])), (x_2, .inr (16, []))] H := hP
    replace hD : va_D A [(aWR, .inr (0, [.ref aTp, .int (iI zWr.tapeLength), .ref aAr, .int (iI zWr.argumentCount), .ref aRd, .ref aVa, .ref aMa, .ref aWa, .ref aW2, .int (bI zWr.loaded), .int (iI zWr.reason)])), (x_2, .inr (16, []))] := hD
    exact ex_out rfl rfl rfl (hno _) hlocks (fun t ht hW => ⟨⟨_, ozt hf ⟨x_2, trivial, rfl, rfl⟩, by rw [ht]; exact hP, hD⟩, hS.F ht⟩) hS.2.2
set_option maxRecDepth 100000 in
abbrev pq_WR_requireRange (R9 : Out (Nat) (Unit)) := (fun (o : Outcome) (w1 : va_W) => ozp R9 (fun x9 => (True) ∧ o = .returned none ∧ w1 = []) (fun t9 => ∃ x9e : Nat, (True) ∧ o = .threw x9e ∧ w1 = [(x9e, .inr (t9, []))]))
set_option maxHeartbeats 8000000 in
set_option maxRecDepth 100000 in
theorem k_WR_requireRange (l : Launch) (htr : l.stackTraces = false) (G : va_G) (cB cI cJ cZ cG : ClassId) (v_number : Int) (v_bound : Int) (hv_number : R32 v_number) (hv_bound : R32 v_bound) (R9 : Out (Nat) (Unit)) (hf : f_WR_requireRange v_number v_bound = R9) (hnb : R9 ≠ .bad) (sz : Nat) : MetX l y_WR_requireRange (wx y_WR_requireRange b_WR_requireRange 2 none) { frames := 6, cells := 1, slots := 6, locals := 90 } (XP G classes (xtys cB cI cJ cZ cG) xE [.int (iI v_number), .int (iI v_bound)] [] sz) (XQ G classes (va_A [] sz) (fun o w1 => ozp R9 (fun x9 => (True) ∧ o = .returned none ∧ w1 = []) (fun t9 => ∃ x9e : Nat, (True) ∧ o = .threw x9e ∧ w1 = [(x9e, .inr (t9, []))]))) 1 6 (va_A [] sz) := by
  refine ex_ofW (cc := b_WR_requireRange) (maxL := 2) (ret := none) (by decide) rfl ?_
  intro p e s m args below meth c s₁ B hml hno hv
  obtain ⟨rfl, hsz, hP, hK, hD0, hE⟩ := hv
  have hx := B.exec
  have hb := B.bytes
  have hr := B.returns
  have hts : ∀ w ∈ lw_good, w.before _ s = true := fun w h => atoms_spec (ws := wx y_WR_requireRange b_WR_requireRange 2 none) B.pre w (List.mem_cons_of_mem _ h)
  have hown : s.vm.findClass R_WR = some m.cls := findClass_of_methodNamed B.named
  have hlocks := B.notSynchronized
  have htr9 : e.platform.stackTraces = false := by rw [B.admits.platform]; exact htr
  subst hsz
  have hNS := xx_nostat hP
  have hD := hD0.self (sz := s.heap.size)
  generalize hAe : va_A [] s.heap.size = A at hD hE hNS ⊢
  have hA : ∀ q : Nat, s.heap.size ≤ q → A q := fun q h => by rw [← hAe]; exact Or.inr h
  have hS : va_S A s.heap s.heap [] := va_S.rf
  have hl := lv_entry ([.int (iI v_number), .int (iI v_bound)]) (n := 2) (Nat.le_of_ble_eq_true rfl)
  rw [lg_entry_eq]
  generalize (lg_sl ([.int (iI v_number), .int (iI v_bound)]) ++ List.replicate (2 - (lg_sl ([.int (iI v_number), .int (iI v_bound)])).length) Slot.unset).toArray = ls at hl ⊢
  have hl : lv_has ls 2 [(0, .int (iI v_number)), (1, .int (iI v_bound))] := hl
  unfold f_WR_requireRange at hf
  refine lv_iload_n hx hb d_WR_requireRange_0 rfl (lv_at hl 0 rfl) ?_
  refine jpE hf (fun K_2 hK_2 hf9 => ?_)
  replace hf := hf9
  clear hf9
  have hJK_2 : ∀ (y_1 : Unit), True → K_2 y_1 = R9 → ∀ (H : Heap) (locs : List Loc), (fun w9 => va_P G classes w9 H → va_D A w9 → va_S A s.heap H locs → ∀ (ls : Array Slot), lv_has ls 2 [(0, .int (iI v_number)), (1, .int (iI v_bound))] → W p l e (headSpec (wx y_WR_requireRange b_WR_requireRange 2 none) { frames := 6, cells := 1, slots := 6, locals := 90 }).room s m ([.int (iI v_number), .int (iI v_bound)] : List Value).toArray below meth c H locs 0 0 (MX below (XQ G classes A (pq_WR_requireRange R9)) ([.int (iI v_number), .int (iI v_bound)] : List Value).toArray s 1 6 A) (F0 m 9 ls [])) [] := by
    intro y_1 hy_1 hf H_1 locs_1 hP_1 hD_1 hS_1 ls hl
    clear hS hD hP
    replace hf := (congrFun hK_2 y_1).symm.trans hf
    clear hK_2
    obtain ⟨qs, hZ⟩ := xE_text hE tx_159
    refine xx_throwNew (cls := "java/lang/IllegalArgumentException") (names := ["java/lang/RuntimeException", "java/lang/Exception"]) (own := R_WR) hx htr9 hb hml hown (hts _ m_554) (hts _ m_555) (hts _ m_18) hZ (xE_atoms hE hts at_R_WR_67) (by decide +kernel) (by decide +kernel) hK 14 rfl hP_1 hD_1 hS_1 hA hNS hl.1 d_WR_requireRange_9 d_WR_requireRange_12 d_WR_requireRange_13 d_WR_requireRange_15 d_WR_requireRange_18 (Nat.le_of_ble_eq_true rfl) (Nat.le_of_ble_eq_true rfl) (Nat.le_of_ble_eq_true rfl) (Nat.le_of_ble_eq_true rfl) (fun x_3 H_1 locs_1 hP_1 hD_1 hS_1 => ?_)
    have hQ9 : (fun w9 => va_P G classes w9 H_1 ∧ va_D A w9) [(x_3, .inr (14, []))] := ⟨hP_1, hD_1⟩
    clear hP_1 hD_1
    obtain ⟨hP_1, hD_1⟩ := hQ9
    exact ex_out rfl rfl rfl (hno _) hlocks (fun t ht hW => ⟨⟨_, ozt hf ⟨x_3, trivial, rfl, rfl⟩, by rw [ht]; exact hP_1, hD_1⟩, hS_1.F ht⟩) hS_1.2.2
  clear hK_2
  refine lv_if_lt (tgt := 9) hx hb d_WR_requireRange_1 (by decide) (fun c_4 => ?_) (fun c_4 => ?_)
  · have c_4 := ((zv_lt (iI_t hv_number) zero_v)).mp c_4
    replace hf := ifp c_4 hf
    exact hJK_2 () trivial hf _ _ hP hD hS _ (lv_sub hl [0, 1] rfl)
  · have c_4 := (fun q9 => c_4 (((zv_lt (iI_t hv_number) zero_v)).mpr q9))
    replace hf := ifn c_4 hf
    refine lv_iload_n hx hb d_WR_requireRange_4 rfl (lv_at hl 0 rfl) ?_
    refine lv_iload_n hx hb d_WR_requireRange_5 rfl (lv_at hl 1 rfl) ?_
    refine lv_icmp_lt (tgt := 19) hx hb d_WR_requireRange_6 (by decide) (fun c_5 => ?_) (fun c_5 => ?_)
    · have c_5 := ((zv_lt (iI_t hv_number) (iI_t hv_bound))).mp c_5
      replace hf := ifp c_5 hf
      refine W.widen (k := 1) (n := 6) (Nat.le_of_ble_eq_true rfl) (Nat.le_of_ble_eq_true rfl) ?_
      exact ex_W (fun _ h => ex_mq h) (W.vret hx hb hr (fun t ht hW => ⟨⟨_, ozr hf ⟨trivial, rfl, rfl⟩, by rw [ht]; exact hP, hD⟩, hS.F ht⟩) hS.2.2 d_WR_requireRange_19)
    · have c_5 := (fun q9 => c_5 (((zv_lt (iI_t hv_number) (iI_t hv_bound))).mpr q9))
      replace hf := ifn c_5 hf
      exact hJK_2 () trivial hf _ _ hP hD hS _ (lv_sub hl [0, 1] rfl)
