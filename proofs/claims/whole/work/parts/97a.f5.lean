noncomputable def f_WR_callO (zWr : KWr) (v_f : Int) : Out (Nat) (Int64) := obind2 (f_WR_requireModule zWr) (fun (x_1 : Unit) => .bad) (fun (x_1 : Nat) => .thr x_1)
set_option maxRecDepth 100000 in
abbrev pq_WR_putIntG (cB : ClassId) (aSo : Nat) (aTp : Nat) (aWR : Nat) (aAr : Nat) (aRd : Nat) (aVa : Nat) (aMa : Nat) (aWa : Nat) (aW2 : Nat) (gSo : Value) (R9 : Out Empty (KSo × KWr)) := (fun (o : Outcome) (w1 : va_W) => ozp R9 (fun x9 => (KSo.Ok x9.1 ∧ KWr.Ok x9.2) ∧ o = .returned none ∧ w1 = [(aSo, .inr (3, [gSo, .int (iI x9.1.at_), .int (iI x9.1.limit), .int (bI x9.1.failed)])), (aTp, .inl (cB, 2000, .inl x9.1.bytes)), (aWR, .inr (0, [.ref aTp, .int (iI x9.2.tapeLength), .ref aAr, .int (iI x9.2.argumentCount), .ref aRd, .ref aVa, .ref aMa, .ref aWa, .ref aW2, .int (bI x9.2.loaded), .int (iI x9.2.reason)]))]) (fun _ => False))
set_option maxHeartbeats 8000000 in
set_option maxRecDepth 100000 in
theorem k_WR_putIntG (l : Launch) (htr : l.stackTraces = false) (G : va_G) (cB cI cJ cZ cG : ClassId) (aSo : Nat) (aTp : Nat) (aWR : Nat) (aAr : Nat) (aRd : Nat) (aVa : Nat) (aMa : Nat) (aWa : Nat) (aW2 : Nat) (zSo : KSo) (zWr : KWr) (hzSo : KSo.Ok zSo) (hzWr : KWr.Ok zWr) (gSo : Value) (v_four : Int32) (fu : Nat) (R9 : Out Empty (KSo × KWr)) (hf : f_WR_putInt fu zSo zWr v_four = R9) (hnb : R9 ≠ .bad) (sz : Nat) : MetX l y_WR_putInt (wx y_WR_putInt b_WR_putInt 3 none) { frames := 0, cells := 0, slots := 0, locals := 0 } (XP G classes (xtys cB cI cJ cZ cG) xE [.ref aWR, .int v_four] [(aSo, .inr (3, [gSo, .int (iI zSo.at_), .int (iI zSo.limit), .int (bI zSo.failed)])), (aTp, .inl (cB, 2000, .inl zSo.bytes)), (aWR, .inr (0, [.ref aTp, .int (iI zWr.tapeLength), .ref aAr, .int (iI zWr.argumentCount), .ref aRd, .ref aVa, .ref aMa, .ref aWa, .ref aW2, .int (bI zWr.loaded), .int (iI zWr.reason)]))] sz) (XQ G classes (va_A [(aSo, .inr (3, [gSo, .int (iI zSo.at_), .int (iI zSo.limit), .int (bI zSo.failed)])), (aTp, .inl (cB, 2000, .inl zSo.bytes)), (aWR, .inr (0, [.ref aTp, .int (iI zWr.tapeLength), .ref aAr, .int (iI zWr.argumentCount), .ref aRd, .ref aVa, .ref aMa, .ref aWa, .ref aW2, .int (bI zWr.loaded), .int (iI zWr.reason)]))] sz) (fun o w1 => ozp R9 (fun x9 => (KSo.Ok x9.1 ∧ KWr.Ok x9.2) ∧ o = .returned none ∧ w1 = [(aSo, .inr (3, [gSo, .int (iI x9.1.at_), .int (iI x9.1.limit), .int (bI x9.1.failed)])), (aTp, .inl (cB, 2000, .inl x9.1.bytes)), (aWR, .inr (0, [.ref aTp, .int (iI x9.2.tapeLength), .ref aAr, .int (iI x9.2.argumentCount), .ref aRd, .ref aVa, .ref aMa, .ref aWa, .ref aW2, .int (bI x9.2.loaded), .int (iI x9.2.reason)]))]) (fun _ => False))) 0 0 (va_A [(aSo, .inr (3, [gSo, .int (iI zSo.at_), .int (iI zSo.limit), .int (bI zSo.failed)])), (aTp, .inl (cB, 2000, .inl zSo.bytes)), (aWR, .inr (0, [.ref aTp, .int (iI zWr.tapeLength), .ref aAr, .int (iI zWr.argumentCount), .ref aRd, .ref aVa, .ref aMa, .ref aWa, .ref aW2, .int (bI zWr.loaded), .int (iI zWr.reason)]))] sz) := by
  refine ex_ofW (cc := b_WR_putInt) (maxL := 3) (ret := none) (by decide) rfl ?_
  intro p e s m args below meth c s₁ B hml hno hv
  obtain ⟨rfl, hsz, hP, hK, hD0, hE⟩ := hv
  have hx := B.exec
  have hb := B.bytes
  have hr := B.returns
  have hts : ∀ w ∈ lw_good, w.before _ s = true := fun w h => atoms_spec (ws := wx y_WR_putInt b_WR_putInt 3 none) B.pre w (List.mem_cons_of_mem _ h)
  have hown : s.vm.findClass R_WR = some m.cls := findClass_of_methodNamed B.named
  have hlocks := B.notSynchronized
  subst hsz
  have hNS := xx_nostat hP
  have hD := hD0.self (sz := s.heap.size)
  generalize hAe : va_A [(aSo, .inr (3, [gSo, .int (iI zSo.at_), .int (iI zSo.limit), .int (bI zSo.failed)])), (aTp, .inl (cB, 2000, .inl zSo.bytes)), (aWR, .inr (0, [.ref aTp, .int (iI zWr.tapeLength), .ref aAr, .int (iI zWr.argumentCount), .ref aRd, .ref aVa, .ref aMa, .ref aWa, .ref aW2, .int (bI zWr.loaded), .int (iI zWr.reason)]))] s.heap.size = A at hD hE hNS ⊢
  have hA : ∀ q : Nat, s.heap.size ≤ q → A q := fun q h => by rw [← hAe]; exact Or.inr h
  have hS : va_S A s.heap s.heap [] := va_S.rf
  have hl := lv_entry ([.ref aWR, .int v_four]) (n := 3) (Nat.le_of_ble_eq_true rfl)
  rw [lg_entry_eq]
  generalize (lg_sl ([.ref aWR, .int v_four]) ++ List.replicate (3 - (lg_sl ([.ref aWR, .int v_four])).length) Slot.unset).toArray = ls at hl ⊢
  have hl : lv_has ls 3 [(0, .ref aWR), (1, .int v_four)] := hl
  unfold f_WR_putInt at hf
  refine lv_bipush (v := iI 24) hx hb d_WR_putInt_0 (by decide) ?_
  refine lv_istore_n (lv' := [(2, .int (iI 24)), (0, .ref aWR), (1, .int v_four)]) hx hb d_WR_putInt_2 rfl hl (by decide) rfl (fun ls hl => ?_)
  refine obG hf (fun K_3 hK_3 hf => ?_)
  have hJK_3 : ∀ (y_5 : KSo × KWr × Int), KSo.Ok y_5.1 ∧ KWr.Ok y_5.2.1 ∧ R32 y_5.2.2 → K_3 y_5 = R9 → ∀ (H : Heap) (locs : List Loc), (fun w9 => va_P G classes w9 H → va_D A w9 → va_S A s.heap H locs → ∀ (ls : Array Slot), lv_has ls 3 [(0, .ref aWR), (1, .int v_four), (2, .int (iI y_5.2.2))] → W p l e (headSpec (wx y_WR_putInt b_WR_putInt 3 none) { frames := 0, cells := 0, slots := 0, locals := 0 }).room s m ([.ref aWR, .int v_four] : List Value).toArray below meth c H locs 0 0 (MX below (XQ G classes A (pq_WR_putIntG cB aSo aTp aWR aAr aRd aVa aMa aWa aW2 gSo R9)) ([.ref aWR, .int v_four] : List Value).toArray s 0 0 A) (F0 m 36 ls [])) [(aSo, .inr (3, [gSo, .int (iI y_5.1.at_), .int (iI y_5.1.limit), .int (bI y_5.1.failed)])), (aTp, .inl (cB, 2000, .inl y_5.1.bytes)), (aWR, .inr (0, [.ref aTp, .int (iI y_5.2.1.tapeLength), .ref aAr, .int (iI y_5.2.1.argumentCount), .ref aRd, .ref aVa, .ref aMa, .ref aWa, .ref aW2, .int (bI y_5.2.1.loaded), .int (iI y_5.2.1.reason)]))] := by
    intro y_5 hy_5 hf H_5 locs_5 hP_5 hD_5 hS_5 ls hl
    clear hS hD hP
    replace hf := (congrFun hK_3 y_5).symm.trans hf
    clear hK_3
    exact ex_W (fun _ h => ex_mq h) (W.vret hx hb hr (fun t ht hW => ⟨⟨_, ozr hf ⟨⟨hy_5.1, hy_5.2.1⟩, rfl, rfl⟩, by rw [ht]; exact hP_5, hD_5⟩, hS_5.F ht⟩) hS_5.2.2 d_WR_putInt_36)
  clear hK_3
  have loop_3 : ∀ (n_1 : Nat) (zSo_6 : KSo) (zWr_7 : KWr) (w_shift_8 : Int), KSo.Ok zSo_6 → KWr.Ok zWr_7 → R32 w_shift_8 → ∀ (R_9 : Out Empty (KSo × KWr × Int)), L3_WR_putInt fu v_four n_1 zSo_6 zWr_7 w_shift_8 = R_9 → obind R_9 K_3 = R9 → ∀ (H : Heap) (locs : List Loc), (fun w9 => va_P G classes w9 H → va_D A w9 → va_S A s.heap H locs → ∀ (ls : Array Slot), lv_has ls 3 [(0, .ref aWR), (1, .int v_four), (2, .int (iI w_shift_8))] → W p l e (headSpec (wx y_WR_putInt b_WR_putInt 3 none) { frames := 0, cells := 0, slots := 0, locals := 0 }).room s m ([.ref aWR, .int v_four] : List Value).toArray below meth c H locs 0 0 (MX below (XQ G classes A (pq_WR_putIntG cB aSo aTp aWR aAr aRd aVa aMa aWa aW2 gSo R9)) ([.ref aWR, .int v_four] : List Value).toArray s 0 0 A) (F0 m 3 ls [])) [(aSo, .inr (3, [gSo, .int (iI zSo_6.at_), .int (iI zSo_6.limit), .int (bI zSo_6.failed)])), (aTp, .inl (cB, 2000, .inl zSo_6.bytes)), (aWR, .inr (0, [.ref aTp, .int (iI zWr_7.tapeLength), .ref aAr, .int (iI zWr_7.argumentCount), .ref aRd, .ref aVa, .ref aMa, .ref aWa, .ref aW2, .int (bI zWr_7.loaded), .int (iI zWr_7.reason)]))] := by
    intro n_1
    induction n_1 with
    | zero => intro zSo_6 zWr_7 w_shift_8  hzSo_6 hzWr_7 hw_shift_8 R_9 hf hk3; subst hf; exact absurd hk3.symm hnb
    | succ n_1 ih_3 =>
      intro zSo_6 zWr_7 w_shift_8  hzSo_6 hzWr_7 hw_shift_8 R_9 hf hk3 H_6 locs_6 hP_6 hD_6 hS_6 ls hl
      clear hS hD hP
      have hnb : R_9 ≠ .bad := ob_nb hnb hk3
      rw [L3_WR_putInt.eq_2] at hf
      refine lv_iload_n hx hb d_WR_putInt_3 rfl (lv_at hl 2 rfl) ?_
      refine lv_if_lt (tgt := 36) hx hb d_WR_putInt_4 (by decide) (fun c_10 => ?_) (fun c_10 => ?_)
      · have c_10 := ((zv_lt (iI_t hw_shift_8) zero_v)).mp c_10
        replace hf := ifp c_10 hf
        exact hJK_3 (zSo_6, zWr_7, w_shift_8) ⟨hzSo_6, hzWr_7, hw_shift_8⟩ (ob_r hf hk3) _ _ hP_6 hD_6 hS_6 _ (lv_sub hl [0, 1, 2] rfl)
      · have c_10 := (fun q9 => c_10 (((zv_lt (iI_t hw_shift_8) zero_v)).mpr q9))
        replace hf := ifn c_10 hf
        refine lv_aload_n hx hb d_WR_putInt_7 rfl (lv_at hl 0 rfl) ?_
        refine va_get (D := G) (ci := 0) (v := .ref aTp) (C := R_WR) (T := F_WR) (N := 11) hx hb hts i_WR hown hK hP_6 2 rfl rfl 0 (by decide) (hts _ m_418) (fun _ h9 => h9) rfl d_WR_putInt_8 ?_
        refine lv_aload_n hx hb d_WR_putInt_11 rfl (lv_at hl 0 rfl) ?_
        refine va_get (D := G) (ci := 0) (v := .int (iI zWr_7.tapeLength)) (C := R_WR) (T := F_WR) (N := 11) hx hb hts i_WR hown hK hP_6 2 rfl rfl 1 (by decide) (hts _ m_419) (fun _ h9 => h9) rfl d_WR_putInt_12 ?_
        refine lv_iload_n hx hb d_WR_putInt_15 rfl (lv_at hl 1 rfl) ?_
        refine lv_iload_n hx hb d_WR_putInt_16 rfl (lv_at hl 2 rfl) ?_
        refine lv_ishr hx hb d_WR_putInt_17 ?_
        refine lv_i2b hx hb d_WR_putInt_18 rfl ?_
        replace hf := grd hnb hf
        obtain ⟨g_11, hf⟩ := hf
        refine va_bast hx hb hK hP_6 hD_6 hS_6 1 0 rfl rfl (vp_in_iI hzWr_7.tapeLength g_11) d_WR_putInt_19 (fun H_7 locs_7 hP_7 hD_7 hS_7 => ?_)
        clear hS_6 hD_6 hP_6
        rw [iI_clamp hzWr_7.tapeLength, pk_vb] at hP_7 hD_7
        have hQ9 : (fun w9 => va_P G classes w9 H_7 ∧ va_D A w9) [(aSo, .inr (3, [gSo, .int (iI zSo_6.at_), .int (iI zSo_6.limit), .int (bI zSo_6.failed)])), (aTp, .inl (cB, 2000, .inl (upd zSo_6.bytes zWr_7.tapeLength.toNat ((v_four >>> ((iI w_shift_8) &&& 31)).toInt8.toInt32)))), (aWR, .inr (0, [.ref aTp, .int (iI zWr_7.tapeLength), .ref aAr, .int (iI zWr_7.argumentCount), .ref aRd, .ref aVa, .ref aMa, .ref aWa, .ref aW2, .int (bI zWr_7.loaded), .int (iI zWr_7.reason)]))] := ⟨hP_7, hD_7⟩
        clear hP_7 hD_7
        obtain ⟨hP_7, hD_7⟩ := hQ9
        refine lv_aload_n hx hb d_WR_putInt_20 rfl (lv_at hl 0 rfl) ?_
        refine lv_dup hx hb d_WR_putInt_21 rfl ?_
        refine va_get (D := G) (ci := 0) (v := .int (iI zWr_7.tapeLength)) (C := R_WR) (T := F_WR) (N := 11) hx hb hts i_WR hown hK hP_7 2 rfl rfl 1 (by decide) (hts _ m_419) (fun _ h9 => h9) rfl d_WR_putInt_22 ?_
        refine lv_iconst (v := iI 1) hx hb d_WR_putInt_25 (by decide) ?_
        refine lv_iadd hx hb d_WR_putInt_26 ?_
        refine lv_topi (fun x9 e9 => ?_)
        obtain rfl : x9 = iI (zWr_7.tapeLength + 1) := e9.trans (iI_add _ _)
        replace hf := grd hnb hf
        obtain ⟨g_12, hf⟩ := hf
        refine va_put (D := G) (ci := 0) (v := .int (iI (zWr_7.tapeLength + 1))) (ty := .int) (C := R_WR) (T := F_WR) (N := 11) hx hb hts i_WR t_WR t_WR_ok n_WR hown hK hP_7 hD_7 hS_7 2 rfl rfl 1 (by decide) (hts _ m_419) (fun _ h9 => h9) rfl (by decide +kernel) rfl rfl (Nat.le_of_ble_eq_true rfl) d_WR_putInt_27 (fun H_8 locs_8 hP_8 hD_8 hS_8 => ?_)
        clear hS_7 hD_7 hP_7
        have hQ9 : (fun w9 => va_P G classes w9 H_8 ∧ va_D A w9) [(aSo, .inr (3, [gSo, .int (iI zSo_6.at_), .int (iI zSo_6.limit), .int (bI zSo_6.failed)])), (aTp, .inl (cB, 2000, .inl (upd zSo_6.bytes zWr_7.tapeLength.toNat ((v_four >>> ((iI w_shift_8) &&& 31)).toInt8.toInt32)))), (aWR, .inr (0, [.ref aTp, .int (iI (zWr_7.tapeLength + 1)), .ref aAr, .int (iI zWr_7.argumentCount), .ref aRd, .ref aVa, .ref aMa, .ref aWa, .ref aW2, .int (bI zWr_7.loaded), .int (iI zWr_7.reason)]))] := ⟨hP_8, hD_8⟩
        clear hP_8 hD_8
        obtain ⟨hP_8, hD_8⟩ := hQ9
        replace hf := grd hnb hf
        obtain ⟨g_13, hf⟩ := hf
        refine lv_iinc (v := iI (w_shift_8 + (-8))) (lv' := [(2, .int (iI (w_shift_8 + (-8)))), (0, .ref aWR), (1, .int v_four)]) hx hb d_WR_putInt_30 hl (k := 2) rfl (iI_add _ (-8)) (by decide) rfl (fun ls hl => ?_)
        refine lv_goto (tgt := 3) hx hb d_WR_putInt_33 (by decide) ?_
        exact ih_3 (KSo.mk zSo_6.at_ zSo_6.limit zSo_6.failed (upd zSo_6.bytes zWr_7.tapeLength.toNat ((v_four >>> ((iI w_shift_8) &&& 31)).toInt8.toInt32))) (KWr.mk (zWr_7.tapeLength + 1) zWr_7.argumentCount zWr_7.loaded zWr_7.reason) (w_shift_8 + (-8)) (KSo.Ok.mk hzSo_6.at_ hzSo_6.limit : KSo.Ok (KSo.mk zSo_6.at_ zSo_6.limit zSo_6.failed (upd zSo_6.bytes zWr_7.tapeLength.toNat ((v_four >>> ((iI w_shift_8) &&& 31)).toInt8.toInt32)))) (KWr.Ok.mk g_12 hzWr_7.argumentCount hzWr_7.reason : KWr.Ok (KWr.mk (zWr_7.tapeLength + 1) zWr_7.argumentCount zWr_7.loaded zWr_7.reason)) g_13 _ hf hk3 _ _ hP_8 hD_8 hS_8 _ (lv_sub hl [1, 2, 0] rfl)
  exact loop_3 fu zSo zWr 24 hzSo hzWr (show R32 (24) by decide) _ rfl hf _ _ hP hD hS _ (lv_sub hl [1, 2, 0] rfl)
set_option maxHeartbeats 8000000 in
set_option maxRecDepth 100000 in
theorem k_WR_feedG (l : Launch) (htr : l.stackTraces = false) (G : va_G) (cB cI cJ cZ cG : ClassId) (aSo : Nat) (aTp : Nat) (aWR : Nat) (aAr : Nat) (aRd : Nat) (aVa : Nat) (aMa : Nat) (aWa : Nat) (aW2 : Nat) (zSo : KSo) (zWr : KWr) (hzSo : KSo.Ok zSo) (hzWr : KWr.Ok zWr) (gSo : Value) (v_a : Int32) (v_b : Int32) (v_c : Int32) (v_d : Int32) (v_e : Int32) (fu : Nat) (R9 : Out (KSo × KWr × Nat) (KSo × KWr × Int)) (hf : f_WR_feed fu zSo zWr v_a v_b v_c v_d v_e = R9) (hnb : R9 ≠ .bad) (sz : Nat) : MetX l y_WR_feed (wx y_WR_feed b_WR_feed 6 (some .int)) { frames := 6, cells := 1, slots := 6, locals := 90 } (XP G classes (xtys cB cI cJ cZ cG) xE [.ref aWR, .int v_a, .int v_b, .int v_c, .int v_d, .int v_e] [(aSo, .inr (3, [gSo, .int (iI zSo.at_), .int (iI zSo.limit), .int (bI zSo.failed)])), (aTp, .inl (cB, 2000, .inl zSo.bytes)), (aWR, .inr (0, [.ref aTp, .int (iI zWr.tapeLength), .ref aAr, .int (iI zWr.argumentCount), .ref aRd, .ref aVa, .ref aMa, .ref aWa, .ref aW2, .int (bI zWr.loaded), .int (iI zWr.reason)]))] sz) (XQ G classes (va_A [(aSo, .inr (3, [gSo, .int (iI zSo.at_), .int (iI zSo.limit), .int (bI zSo.failed)])), (aTp, .inl (cB, 2000, .inl zSo.bytes)), (aWR, .inr (0, [.ref aTp, .int (iI zWr.tapeLength), .ref aAr, .int (iI zWr.argumentCount), .ref aRd, .ref aVa, .ref aMa, .ref aWa, .ref aW2, .int (bI zWr.loaded), .int (iI zWr.reason)]))] sz) (fun o w1 => ozp R9 (fun x9 => (KSo.Ok x9.1 ∧ KWr.Ok x9.2.1 ∧ R32 x9.2.2) ∧ o = .returned (some (.int (iI x9.2.2))) ∧ w1 = [(aSo, .inr (3, [gSo, .int (iI x9.1.at_), .int (iI x9.1.limit), .int (bI x9.1.failed)])), (aTp, .inl (cB, 2000, .inl x9.1.bytes)), (aWR, .inr (0, [.ref aTp, .int (iI x9.2.1.tapeLength), .ref aAr, .int (iI x9.2.1.argumentCount), .ref aRd, .ref aVa, .ref aMa, .ref aWa, .ref aW2, .int (bI x9.2.1.loaded), .int (iI x9.2.1.reason)]))]) (fun t9 => ∃ x9e : Nat, (KSo.Ok t9.1 ∧ KWr.Ok t9.2.1) ∧ o = .threw x9e ∧ w1 = [(aSo, .inr (3, [gSo, .int (iI t9.1.at_), .int (iI t9.1.limit), .int (bI t9.1.failed)])), (aTp, .inl (cB, 2000, .inl t9.1.bytes)), (aWR, .inr (0, [.ref aTp, .int (iI t9.2.1.tapeLength), .ref aAr, .int (iI t9.2.1.argumentCount), .ref aRd, .ref aVa, .ref aMa, .ref aWa, .ref aW2, .int (bI t9.2.1.loaded), .int (iI t9.2.1.reason)])), (x9e, .inr (t9.2.2, []))]))) 1 6 (va_A [(aSo, .inr (3, [gSo, .int (iI zSo.at_), .int (iI zSo.limit), .int (bI zSo.failed)])), (aTp, .inl (cB, 2000, .inl zSo.bytes)), (aWR, .inr (0, [.ref aTp, .int (iI zWr.tapeLength), .ref aAr, .int (iI zWr.argumentCount), .ref aRd, .ref aVa, .ref aMa, .ref aWa, .ref aW2, .int (bI zWr.loaded), .int (iI zWr.reason)]))] sz) := by
  refine ex_ofW (cc := b_WR_feed) (maxL := 6) (ret := (some .int)) (by decide) rfl ?_
  intro p e s m args below meth c s₁ B hml hno hv
  obtain ⟨rfl, hsz, hP, hK, hD0, hE⟩ := hv
  have hx := B.exec
  have hb := B.bytes
  have hr := B.returns
  have hts : ∀ w ∈ lw_good, w.before _ s = true := fun w h => atoms_spec (ws := wx y_WR_feed b_WR_feed 6 (some .int)) B.pre w (List.mem_cons_of_mem _ h)
  have hown : s.vm.findClass R_WR = some m.cls := findClass_of_methodNamed B.named
  have hlocks := B.notSynchronized
  have htr9 : e.platform.stackTraces = false := by rw [B.admits.platform]; exact htr
  subst hsz
  have hNS := xx_nostat hP
  have hD := hD0.self (sz := s.heap.size)
  generalize hAe : va_A [(aSo, .inr (3, [gSo, .int (iI zSo.at_), .int (iI zSo.limit), .int (bI zSo.failed)])), (aTp, .inl (cB, 2000, .inl zSo.bytes)), (aWR, .inr (0, [.ref aTp, .int (iI zWr.tapeLength), .ref aAr, .int (iI zWr.argumentCount), .ref aRd, .ref aVa, .ref aMa, .ref aWa, .ref aW2, .int (bI zWr.loaded), .int (iI zWr.reason)]))] s.heap.size = A at hD hE hNS ⊢
  have hA : ∀ q : Nat, s.heap.size ≤ q → A q := fun q h => by rw [← hAe]; exact Or.inr h
  have hS : va_S A s.heap s.heap [] := va_S.rf
  have hl := lv_entry ([.ref aWR, .int v_a, .int v_b, .int v_c, .int v_d, .int v_e]) (n := 6) (Nat.le_of_ble_eq_true rfl)
  rw [lg_entry_eq]
  generalize (lg_sl ([.ref aWR, .int v_a, .int v_b, .int v_c, .int v_d, .int v_e]) ++ List.replicate (6 - (lg_sl ([.ref aWR, .int v_a, .int v_b, .int v_c, .int v_d, .int v_e])).length) Slot.unset).toArray = ls at hl ⊢
  have hl : lv_has ls 6 [(0, .ref aWR), (1, .int v_a), (2, .int v_b), (3, .int v_c), (4, .int v_d), (5, .int v_e)] := hl
  unfold f_WR_feed at hf
  refine lv_aload_n hx hb d_WR_feed_0 rfl (lv_at hl 0 rfl) ?_
  refine va_get (D := G) (ci := 0) (v := .int (iI zWr.tapeLength)) (C := R_WR) (T := F_WR) (N := 11) hx hb hts i_WR hown hK hP 2 rfl rfl 1 (by decide) (hts _ m_419) (fun _ h9 => h9) rfl d_WR_feed_1 ?_
  refine lv_bipush (v := iI 20) hx hb d_WR_feed_4 (by decide) ?_
  refine lv_iadd hx hb d_WR_feed_6 ?_
  refine lv_topi (fun x9 e9 => ?_)
  obtain rfl : x9 = iI (zWr.tapeLength + 20) := e9.trans (iI_add _ _)
  replace hf := grd hnb hf
  obtain ⟨g_1, hf⟩ := hf
  refine lv_sipush (v := iI 2000) hx hb d_WR_feed_7 (by decide) ?_
  refine lv_icmp_le (tgt := 23) hx hb d_WR_feed_10 (by decide) (fun c_2 => ?_) (fun c_2 => ?_)
  · have c_2 := ((zv_le (iI_t g_1) (iI_t (show R32 (2000) by decide)))).mp c_2
    replace hf := ifp c_2 hf
    refine lv_aload_n hx hb d_WR_feed_23 rfl (lv_at hl 0 rfl) ?_
    refine lv_iload_n hx hb d_WR_feed_24 rfl (lv_at hl 1 rfl) ?_
    replace hf := obE hnb hf
    obtain ⟨x_3, e_4, hf⟩ := hf
    refine xx_callV (wc := [(aSo, .inr (3, [gSo, .int (iI zSo.at_), .int (iI zSo.limit), .int (bI zSo.failed)])), (aTp, .inl (cB, 2000, .inl zSo.bytes)), (aWR, .inr (0, [.ref aTp, .int (iI zWr.tapeLength), .ref aAr, .int (iI zWr.argumentCount), .ref aRd, .ref aVa, .ref aMa, .ref aWa, .ref aW2, .int (bI zWr.loaded), .int (iI zWr.reason)]))]) (wr := []) (As := [.int v_a]) (rest := []) ⟨hx, hb, hml, hown, hts⟩ xE_st hK hE hA (k_WR_putIntG l htr G cB cI cJ cZ cG aSo aTp aWR aAr aRd aVa aMa aWa aW2 zSo zWr hzSo hzWr gSo v_a fu (.ret x_3) e_4 ret_nb _) (xw_V 1 hts m_542 m_544 ms_WR_putInt m_1 m_545 (by decide +kernel) ⟨(Nat.le_of_ble_eq_true rfl), (Nat.le_of_ble_eq_true rfl)⟩) hP hD hS [0, 1, 2] [] rfl rfl (by decide +kernel) (by decide +kernel) (by decide +kernel) 2 0 rfl rfl rfl rfl hl.1 rfl (Nat.le_of_ble_eq_true rfl) d_WR_feed_25 ⟨(Nat.le_of_ble_eq_true rfl), (Nat.le_of_ble_eq_true rfl)⟩ (fun v9 w9 H_1 locs_1 hp hP_1 hD_1 hS_1 => ?_) (fun x9 w9 H9 l9 hp _ _ _ => absurd hp (fun q9 => by obtain ⟨-, ho, -⟩ := q9; cases ho))
    clear hS hD hP
    obtain ⟨hx_3, ho, rfl⟩ := hp
    cases ho
    have hQ9 : (fun w9 => va_P G classes w9 H_1 ∧ va_D A w9) [(aSo, .inr (3, [gSo, .int (iI x_3.1.at_), .int (iI x_3.1.limit), .int (bI x_3.1.failed)])), (aTp, .inl (cB, 2000, .inl x_3.1.bytes)), (aWR, .inr (0, [.ref aTp, .int (iI x_3.2.tapeLength), .ref aAr, .int (iI x_3.2.argumentCount), .ref aRd, .ref aVa, .ref aMa, .ref aWa, .ref aW2, .int (bI x_3.2.loaded), .int (iI x_3.2.reason)]))] := ⟨hP_1, hD_1⟩
    clear hP_1 hD_1
    obtain ⟨hP_1, hD_1⟩ := hQ9
    refine lv_aload_n hx hb d_WR_feed_28 rfl (lv_at hl 0 rfl) ?_
    refine lv_iload_n hx hb d_WR_feed_29 rfl (lv_at hl 2 rfl) ?_
    replace hf := obE hnb hf
    obtain ⟨x_5, e_6, hf⟩ := hf
    refine xx_callV (wc := [(aSo, .inr (3, [gSo, .int (iI x_3.1.at_), .int (iI x_3.1.limit), .int (bI x_3.1.failed)])), (aTp, .inl (cB, 2000, .inl x_3.1.bytes)), (aWR, .inr (0, [.ref aTp, .int (iI x_3.2.tapeLength), .ref aAr, .int (iI x_3.2.argumentCount), .ref aRd, .ref aVa, .ref aMa, .ref aWa, .ref aW2, .int (bI x_3.2.loaded), .int (iI x_3.2.reason)]))]) (wr := []) (As := [.int v_b]) (rest := []) ⟨hx, hb, hml, hown, hts⟩ xE_st hK hE hA (k_WR_putIntG l htr G cB cI cJ cZ cG aSo aTp aWR aAr aRd aVa aMa aWa aW2 x_3.1 x_3.2 hx_3.1 hx_3.2 gSo v_b fu (.ret x_5) e_6 ret_nb _) (xw_V 1 hts m_542 m_544 ms_WR_putInt m_1 m_545 (by decide +kernel) ⟨(Nat.le_of_ble_eq_true rfl), (Nat.le_of_ble_eq_true rfl)⟩) hP_1 hD_1 hS_1 [0, 1, 2] [] rfl rfl (by decide +kernel) (by decide +kernel) (by decide +kernel) 2 0 rfl rfl rfl rfl hl.1 rfl (Nat.le_of_ble_eq_true rfl) d_WR_feed_30 ⟨(Nat.le_of_ble_eq_true rfl), (Nat.le_of_ble_eq_true rfl)⟩ (fun v9 w9 H_2 locs_2 hp hP_2 hD_2 hS_2 => ?_) (fun x9 w9 H9 l9 hp _ _ _ => absurd hp (fun q9 => by obtain ⟨-, ho, -⟩ := q9; cases ho))
    clear hS_1 hD_1 hP_1
    obtain ⟨hx_5, ho, rfl⟩ := hp
    cases ho
    have hQ9 : (fun w9 => va_P G classes w9 H_2 ∧ va_D A w9) [(aSo, .inr (3, [gSo, .int (iI x_5.1.at_), .int (iI x_5.1.limit), .int (bI x_5.1.failed)])), (aTp, .inl (cB, 2000, .inl x_5.1.bytes)), (aWR, .inr (0, [.ref aTp, .int (iI x_5.2.tapeLength), .ref aAr, .int (iI x_5.2.argumentCount), .ref aRd, .ref aVa, .ref aMa, .ref aWa, .ref aW2, .int (bI x_5.2.loaded), .int (iI x_5.2.reason)]))] := ⟨hP_2, hD_2⟩
    clear hP_2 hD_2
    obtain ⟨hP_2, hD_2⟩ := hQ9
    refine lv_aload_n hx hb d_WR_feed_33 rfl (lv_at hl 0 rfl) ?_
    refine lv_iload_n hx hb d_WR_feed_34 rfl (lv_at hl 3 rfl) ?_
    replace hf := obE hnb hf
    obtain ⟨x_7, e_8, hf⟩ := hf
    refine xx_callV (wc := [(aSo, .inr (3, [gSo, .int (iI x_5.1.at_), .int (iI x_5.1.limit), .int (bI x_5.1.failed)])), (aTp, .inl (cB, 2000, .inl x_5.1.bytes)), (aWR, .inr (0, [.ref aTp, .int (iI x_5.2.tapeLength), .ref aAr, .int (iI x_5.2.argumentCount), .ref aRd, .ref aVa, .ref aMa, .ref aWa, .ref aW2, .int (bI x_5.2.loaded), .int (iI x_5.2.reason)]))]) (wr := []) (As := [.int v_c]) (rest := []) ⟨hx, hb, hml, hown, hts⟩ xE_st hK hE hA (k_WR_putIntG l htr G cB cI cJ cZ cG aSo aTp aWR aAr aRd aVa aMa aWa aW2 x_5.1 x_5.2 hx_5.1 hx_5.2 gSo v_c fu (.ret x_7) e_8 ret_nb _) (xw_V 1 hts m_542 m_544 ms_WR_putInt m_1 m_545 (by decide +kernel) ⟨(Nat.le_of_ble_eq_true rfl), (Nat.le_of_ble_eq_true rfl)⟩) hP_2 hD_2 hS_2 [0, 1, 2] [] rfl rfl (by decide +kernel) (by decide +kernel) (by decide +kernel) 2 0 rfl rfl rfl rfl hl.1 rfl (Nat.le_of_ble_eq_true rfl) d_WR_feed_35 ⟨(Nat.le_of_ble_eq_true rfl), (Nat.le_of_ble_eq_true rfl)⟩ (fun v9 w9 H_3 locs_3 hp hP_3 hD_3 hS_3 => ?_) (fun x9 w9 H9 l9 hp _ _ _ => absurd hp (fun q9 => by obtain ⟨-, ho, -⟩ := q9; cases ho))
    clear hS_2 hD_2 hP_2
    obtain ⟨hx_7, ho, rfl⟩ := hp
    cases ho
    have hQ9 : (fun w9 => va_P G classes w9 H_3 ∧ va_D A w9) [(aSo, .inr (3, [gSo, .int (iI x_7.1.at_), .int (iI x_7.1.limit), .int (bI x_7.1.failed)])), (aTp, .inl (cB, 2000, .inl x_7.1.bytes)), (aWR, .inr (0, [.ref aTp, .int (iI x_7.2.tapeLength), .ref aAr, .int (iI x_7.2.argumentCount), .ref aRd, .ref aVa, .ref aMa, .ref aWa, .ref aW2, .int (bI x_7.2.loaded), .int (iI x_7.2.reason)]))] := ⟨hP_3, hD_3⟩
    clear hP_3 hD_3
    obtain ⟨hP_3, hD_3⟩ := hQ9
    refine lv_aload_n hx hb d_WR_feed_38 rfl (lv_at hl 0 rfl) ?_
    refine lv_iload hx hb d_WR_feed_39 (lv_at hl 4 rfl) ?_
    replace hf := obE hnb hf
    obtain ⟨x_9, e_10, hf⟩ := hf
    refine xx_callV (wc := [(aSo, .inr (3, [gSo, .int (iI x_7.1.at_), .int (iI x_7.1.limit), .int (bI x_7.1.failed)])), (aTp, .inl (cB, 2000, .inl x_7.1.bytes)), (aWR, .inr (0, [.ref aTp, .int (iI x_7.2.tapeLength), .ref aAr, .int (iI x_7.2.argumentCount), .ref aRd, .ref aVa, .ref aMa, .ref aWa, .ref aW2, .int (bI x_7.2.loaded), .int (iI x_7.2.reason)]))]) (wr := []) (As := [.int v_d]) (rest := []) ⟨hx, hb, hml, hown, hts⟩ xE_st hK hE hA (k_WR_putIntG l htr G cB cI cJ cZ cG aSo aTp aWR aAr aRd aVa aMa aWa aW2 x_7.1 x_7.2 hx_7.1 hx_7.2 gSo v_d fu (.ret x_9) e_10 ret_nb _) (xw_V 1 hts m_542 m_544 ms_WR_putInt m_1 m_545 (by decide +kernel) ⟨(Nat.le_of_ble_eq_true rfl), (Nat.le_of_ble_eq_true rfl)⟩) hP_3 hD_3 hS_3 [0, 1, 2] [] rfl rfl (by decide +kernel) (by decide +kernel) (by decide +kernel) 2 0 rfl rfl rfl rfl hl.1 rfl (Nat.le_of_ble_eq_true rfl) d_WR_feed_41 ⟨(Nat.le_of_ble_eq_true rfl), (Nat.le_of_ble_eq_true rfl)⟩ (fun v9 w9 H_4 locs_4 hp hP_4 hD_4 hS_4 => ?_) (fun x9 w9 H9 l9 hp _ _ _ => absurd hp (fun q9 => by obtain ⟨-, ho, -⟩ := q9; cases ho))
    clear hS_3 hD_3 hP_3
    obtain ⟨hx_9, ho, rfl⟩ := hp
    cases ho
    have hQ9 : (fun w9 => va_P G classes w9 H_4 ∧ va_D A w9) [(aSo, .inr (3, [gSo, .int (iI x_9.1.at_), .int (iI x_9.1.limit), .int (bI x_9.1.failed)])), (aTp, .inl (cB, 2000, .inl x_9.1.bytes)), (aWR, .inr (0, [.ref aTp, .int (iI x_9.2.tapeLength), .ref aAr, .int (iI x_9.2.argumentCount), .ref aRd, .ref aVa, .ref aMa, .ref aWa, .ref aW2, .int (bI x_9.2.loaded), .int (iI x_9.2.reason)]))] := ⟨hP_4, hD_4⟩
    clear hP_4 hD_4
    obtain ⟨hP_4, hD_4⟩ := hQ9
    refine lv_aload_n hx hb d_WR_feed_44 rfl (lv_at hl 0 rfl) ?_
    refine lv_iload hx hb d_WR_feed_45 (lv_at hl 5 rfl) ?_
    replace hf := obE hnb hf
    obtain ⟨x_11, e_12, hf⟩ := hf
    refine xx_callV (wc := [(aSo, .inr (3, [gSo, .int (iI x_9.1.at_), .int (iI x_9.1.limit), .int (bI x_9.1.failed)])), (aTp, .inl (cB, 2000, .inl x_9.1.bytes)), (aWR, .inr (0, [.ref aTp, .int (iI x_9.2.tapeLength), .ref aAr, .int (iI x_9.2.argumentCount), .ref aRd, .ref aVa, .ref aMa, .ref aWa, .ref aW2, .int (bI x_9.2.loaded), .int (iI x_9.2.reason)]))]) (wr := []) (As := [.int v_e]) (rest := []) ⟨hx, hb, hml, hown, hts⟩ xE_st hK hE hA (k_WR_putIntG l htr G cB cI cJ cZ cG aSo aTp aWR aAr aRd aVa aMa aWa aW2 x_9.1 x_9.2 hx_9.1 hx_9.2 gSo v_e fu (.ret x_11) e_12 ret_nb _) (xw_V 1 hts m_542 m_544 ms_WR_putInt m_1 m_545 (by decide +kernel) ⟨(Nat.le_of_ble_eq_true rfl), (Nat.le_of_ble_eq_true rfl)⟩) hP_4 hD_4 hS_4 [0, 1, 2] [] rfl rfl (by decide +kernel) (by decide +kernel) (by decide +kernel) 2 0 rfl rfl rfl rfl hl.1 rfl (Nat.le_of_ble_eq_true rfl) d_WR_feed_47 ⟨(Nat.le_of_ble_eq_true rfl), (Nat.le_of_ble_eq_true rfl)⟩ (fun v9 w9 H_5 locs_5 hp hP_5 hD_5 hS_5 => ?_) (fun x9 w9 H9 l9 hp _ _ _ => absurd hp (fun q9 => by obtain ⟨-, ho, -⟩ := q9; cases ho))
    clear hS_4 hD_4 hP_4
    obtain ⟨hx_11, ho, rfl⟩ := hp
    cases ho
    have hQ9 : (fun w9 => va_P G classes w9 H_5 ∧ va_D A w9) [(aSo, .inr (3, [gSo, .int (iI x_11.1.at_), .int (iI x_11.1.limit), .int (bI x_11.1.failed)])), (aTp, .inl (cB, 2000, .inl x_11.1.bytes)), (aWR, .inr (0, [.ref aTp, .int (iI x_11.2.tapeLength), .ref aAr, .int (iI x_11.2.argumentCount), .ref aRd, .ref aVa, .ref aMa, .ref aWa, .ref aW2, .int (bI x_11.2.loaded), .int (iI x_11.2.reason)]))] := ⟨hP_5, hD_5⟩
    clear hP_5 hD_5
    obtain ⟨hP_5, hD_5⟩ := hQ9
    refine lv_aload_n hx hb d_WR_feed_50 rfl (lv_at hl 0 rfl) ?_
    refine va_get (D := G) (ci := 0) (v := .int (iI x_11.2.tapeLength)) (C := R_WR) (T := F_WR) (N := 11) hx hb hts i_WR hown hK hP_5 2 rfl rfl 1 (by decide) (hts _ m_419) (fun _ h9 => h9) rfl d_WR_feed_51 ?_
    refine W.widen (k := 1) (n := 6) (Nat.le_of_ble_eq_true rfl) (Nat.le_of_ble_eq_true rfl) ?_
    exact ex_W (fun _ h => ex_mq h) (W.iret (v := iI x_11.2.tapeLength) hx hb hr (fun t ht hW => ⟨⟨_, ozr hf ⟨⟨hx_11.1, hx_11.2, hx_11.2.tapeLength⟩, rfl, rfl⟩, by rw [ht]; exact hP_5, hD_5⟩, hS_5.F ht⟩) hS_5.2.2 d_WR_feed_54)
  · have c_2 := (fun q9 => c_2 (((zv_le (iI_t g_1) (iI_t (show R32 (2000) by decide)))).mpr q9))
    replace hf := ifn c_2 hf
    obtain ⟨qs, hZ⟩ := xE_text hE tx_54
    refine xx_throwNew (cls := "java/lang/IndexOutOfBoundsException") (names := ["java/lang/RuntimeException", "java/lang/Exception"]) (own := R_WR) hx htr9 hb hml hown (hts _ m_472) (hts _ m_473) (hts _ m_17) hZ (xE_atoms hE hts at_R_WR_56) (by decide +kernel) (by decide +kernel) hK 13 rfl hP hD hS hA hNS hl.1 d_WR_feed_13 d_WR_feed_16 d_WR_feed_17 d_WR_feed_19 d_WR_feed_22 (Nat.le_of_ble_eq_true rfl) (Nat.le_of_ble_eq_true rfl) (Nat.le_of_ble_eq_true rfl) (Nat.le_of_ble_eq_true rfl) (fun x_13 H locs hP hD hS => ?_)
    have hQ9 : (fun w9 => va_P G classes w9 H ∧ va_D A w9) [(aSo, .inr (3, [gSo, .int (iI zSo.at_), .int (iI zSo.limit), .int (bI zSo.failed)])), (aTp, .inl (cB, 2000, .inl zSo.bytes)), (aWR, .inr (0, [.ref aTp, .int (iI zWr.tapeLength), .ref aAr, .int (iI zWr.argumentCount), .ref aRd, .ref aVa, .ref aMa, .ref aWa, .ref aW2, .int (bI zWr.loaded), .int (iI zWr.reason)])), (x_13, .inr (13, []))] := ⟨hP, hD⟩
    clear hP hD
    obtain ⟨hP, hD⟩ := hQ9
    exact ex_out rfl rfl rfl (hno _) hlocks (fun t ht hW => ⟨⟨_, ozt hf ⟨x_13, ⟨hzSo, hzWr⟩, rfl, rfl⟩, by rw [ht]; exact hP, hD⟩, hS.F ht⟩) hS.2.2
set_option maxHeartbeats 8000000 in
set_option maxRecDepth 100000 in
theorem k_WR_globalG (l : Launch) (htr : l.stackTraces = false) (G : va_G) (cB cI cJ cZ cG : ClassId) (aWa : Nat) (aWa_parameterCounts : Nat) (aWa_parameters : Nat) (aWa_results : Nat) (aWa_functionTypes : Nat) (aWa_starts : Nat) (aWa_localCounts : Nat) (aWa_locals : Nat) (aWa_globalTypes : Nat) (aWa_globalsChange : Nat) (aWa_initialTypes : Nat) (aWa_initialValues : Nat) (aEx : Nat) (aCo : Nat) (aMa : Nat) (aMa_bytes : Nat) (aMa_globals : Nat) (aMa_stack : Nat) (aMa_functions : Nat) (aMa_bases : Nat) (aMa_returns : Nat) (aWR : Nat) (aTp : Nat) (aAr : Nat) (aRd : Nat) (aVa : Nat) (aW2 : Nat) (zW1 : KW1) (zW3 : KW3) (zW5 : KW5) (zW6 : KW6) (zAg : KAg) (zMa : KMa) (zAs : KAs) (zAf : KAf) (zWr : KWr) (hzW1 : KW1.Ok zW1) (hzW3 : KW3.Ok zW3) (hzW5 : KW5.Ok zW5) (hzW6 : KW6.Ok zW6) (hzAg : KAg.Ok zAg) (hzMa : KMa.Ok zMa) (hzAs : KAs.Ok zAs) (hzAf : KAf.Ok zAf) (hzWr : KWr.Ok zWr) (gMw : Value) (gMc : Value) (v_g : Int) (hv_g : R32 v_g) (R9 : Out (Nat) (Int64)) (hf : f_WR_global zW6 zAg zWr v_g = R9) (hnb : R9 ≠ .bad) (sz : Nat) : MetX l y_WR_global (wx y_WR_global b_WR_global 2 (some .long)) { frames := 7, cells := 2, slots := 12, locals := 111 } (XP G classes (xtys cB cI cJ cZ cG) xE [.ref aWR, .int (iI v_g)] [(aWa, .inr (7, [.int (iI zW1.typeCount), .ref aWa_parameterCounts, .ref aWa_parameters, .ref aWa_results, .int (iI zW3.functionCount), .ref aWa_functionTypes, .ref aWa_starts, .ref aWa_localCounts, .ref aWa_locals, .int (bI zW5.hasMemory), .long zW5.pagesAtFirst, .long zW5.pagesMost, .int (iI zW6.globalCount), .ref aWa_globalTypes, .ref aWa_globalsChange, .ref aWa_initialTypes, .ref aWa_initialValues, .ref aEx, .ref aCo])), (aMa, .inr (6, [.ref aMa_bytes, .int (bI zAg.written), .int (iI zAg.pages), .ref aMa_globals, .int (iI zMa.steps), gMw, gMc, .int (iI zMa.reason), .int (iI zMa.next), .ref aMa_stack, .int (iI zAs.height), .ref aMa_functions, .ref aMa_bases, .ref aMa_returns, .int (iI zAf.depth), .int (iI zAf.variables), .int (iI zAf.values)])), (aMa_globals, .inl (cJ, 20, .inr (.inl zAg.globals))), (aWR, .inr (0, [.ref aTp, .int (iI zWr.tapeLength), .ref aAr, .int (iI zWr.argumentCount), .ref aRd, .ref aVa, .ref aMa, .ref aWa, .ref aW2, .int (bI zWr.loaded), .int (iI zWr.reason)]))] sz) (XQ G classes (va_A [(aWa, .inr (7, [.int (iI zW1.typeCount), .ref aWa_parameterCounts, .ref aWa_parameters, .ref aWa_results, .int (iI zW3.functionCount), .ref aWa_functionTypes, .ref aWa_starts, .ref aWa_localCounts, .ref aWa_locals, .int (bI zW5.hasMemory), .long zW5.pagesAtFirst, .long zW5.pagesMost, .int (iI zW6.globalCount), .ref aWa_globalTypes, .ref aWa_globalsChange, .ref aWa_initialTypes, .ref aWa_initialValues, .ref aEx, .ref aCo])), (aMa, .inr (6, [.ref aMa_bytes, .int (bI zAg.written), .int (iI zAg.pages), .ref aMa_globals, .int (iI zMa.steps), gMw, gMc, .int (iI zMa.reason), .int (iI zMa.next), .ref aMa_stack, .int (iI zAs.height), .ref aMa_functions, .ref aMa_bases, .ref aMa_returns, .int (iI zAf.depth), .int (iI zAf.variables), .int (iI zAf.values)])), (aMa_globals, .inl (cJ, 20, .inr (.inl zAg.globals))), (aWR, .inr (0, [.ref aTp, .int (iI zWr.tapeLength), .ref aAr, .int (iI zWr.argumentCount), .ref aRd, .ref aVa, .ref aMa, .ref aWa, .ref aW2, .int (bI zWr.loaded), .int (iI zWr.reason)]))] sz) (fun o w1 => ozp R9 (fun x9 => (True) ∧ o = .returned (some (.long x9)) ∧ w1 = [(aWa, .inr (7, [.int (iI zW1.typeCount), .ref aWa_parameterCounts, .ref aWa_parameters, .ref aWa_results, .int (iI zW3.functionCount), .ref aWa_functionTypes, .ref aWa_starts, .ref aWa_localCounts, .ref aWa_locals, .int (bI zW5.hasMemory), .long zW5.pagesAtFirst, .long zW5.pagesMost, .int (iI zW6.globalCount), .ref aWa_globalTypes, .ref aWa_globalsChange, .ref aWa_initialTypes, .ref aWa_initialValues, .ref aEx, .ref aCo])), (aMa, .inr (6, [.ref aMa_bytes, .int (bI zAg.written), .int (iI zAg.pages), .ref aMa_globals, .int (iI zMa.steps), gMw, gMc, .int (iI zMa.reason), .int (iI zMa.next), .ref aMa_stack, .int (iI zAs.height), .ref aMa_functions, .ref aMa_bases, .ref aMa_returns, .int (iI zAf.depth), .int (iI zAf.variables), .int (iI zAf.values)])), (aMa_globals, .inl (cJ, 20, .inr (.inl zAg.globals))), (aWR, .inr (0, [.ref aTp, .int (iI zWr.tapeLength), .ref aAr, .int (iI zWr.argumentCount), .ref aRd, .ref aVa, .ref aMa, .ref aWa, .ref aW2, .int (bI zWr.loaded), .int (iI zWr.reason)]))]) (fun t9 => ∃ x9e : Nat, (True) ∧ o = .threw x9e ∧ w1 = [(aWa, .inr (7, [.int (iI zW1.typeCount), .ref aWa_parameterCounts, .ref aWa_parameters, .ref aWa_results, .int (iI zW3.functionCount), .ref aWa_functionTypes, .ref aWa_starts, .ref aWa_localCounts, .ref aWa_locals, .int (bI zW5.hasMemory), .long zW5.pagesAtFirst, .long zW5.pagesMost, .int (iI zW6.globalCount), .ref aWa_globalTypes, .ref aWa_globalsChange, .ref aWa_initialTypes, .ref aWa_initialValues, .ref aEx, .ref aCo])), (aMa, .inr (6, [.ref aMa_bytes, .int (bI zAg.written), .int (iI zAg.pages), .ref aMa_globals, .int (iI zMa.steps), gMw, gMc, .int (iI zMa.reason), .int (iI zMa.next), .ref aMa_stack, .int (iI zAs.height), .ref aMa_functions, .ref aMa_bases, .ref aMa_returns, .int (iI zAf.depth), .int (iI zAf.variables), .int (iI zAf.values)])), (aMa_globals, .inl (cJ, 20, .inr (.inl zAg.globals))), (aWR, .inr (0, [.ref aTp, .int (iI zWr.tapeLength), .ref aAr, .int (iI zWr.argumentCount), .ref aRd, .ref aVa, .ref aMa, .ref aWa, .ref aW2, .int (bI zWr.loaded), .int (iI zWr.reason)])), (x9e, .inr (t9, []))]))) 2 12 (va_A [(aWa, .inr (7, [.int (iI zW1.typeCount), .ref aWa_parameterCounts, .ref aWa_parameters, .ref aWa_results, .int (iI zW3.functionCount), .ref aWa_functionTypes, .ref aWa_starts, .ref aWa_localCounts, .ref aWa_locals, .int (bI zW5.hasMemory), .long zW5.pagesAtFirst, .long zW5.pagesMost, .int (iI zW6.globalCount), .ref aWa_globalTypes, .ref aWa_globalsChange, .ref aWa_initialTypes, .ref aWa_initialValues, .ref aEx, .ref aCo])), (aMa, .inr (6, [.ref aMa_bytes, .int (bI zAg.written), .int (iI zAg.pages), .ref aMa_globals, .int (iI zMa.steps), gMw, gMc, .int (iI zMa.reason), .int (iI zMa.next), .ref aMa_stack, .int (iI zAs.height), .ref aMa_functions, .ref aMa_bases, .ref aMa_returns, .int (iI zAf.depth), .int (iI zAf.variables), .int (iI zAf.values)])), (aMa_globals, .inl (cJ, 20, .inr (.inl zAg.globals))), (aWR, .inr (0, [.ref aTp, .int (iI zWr.tapeLength), .ref aAr, .int (iI zWr.argumentCount), .ref aRd, .ref aVa, .ref aMa, .ref aWa, .ref aW2, .int (bI zWr.loaded), .int (iI zWr.reason)]))] sz) := by
  refine ex_ofW (cc := b_WR_global) (maxL := 2) (ret := (some .long)) (by decide) rfl ?_
  intro p e s m args below meth c s₁ B hml hno hv
  obtain ⟨rfl, hsz, hP, hK, hD0, hE⟩ := hv
  have hx := B.exec
  have hb := B.bytes
  have hr := B.returns
  have hts : ∀ w ∈ lw_good, w.before _ s = true := fun w h => atoms_spec (ws := wx y_WR_global b_WR_global 2 (some .long)) B.pre w (List.mem_cons_of_mem _ h)
  have hown : s.vm.findClass R_WR = some m.cls := findClass_of_methodNamed B.named
  have hlocks := B.notSynchronized
  have htr9 : e.platform.stackTraces = false := by rw [B.admits.platform]; exact htr
  subst hsz
  have hNS := xx_nostat hP
  have hD := hD0.self (sz := s.heap.size)
  generalize hAe : va_A [(aWa, .inr (7, [.int (iI zW1.typeCount), .ref aWa_parameterCounts, .ref aWa_parameters, .ref aWa_results, .int (iI zW3.functionCount), .ref aWa_functionTypes, .ref aWa_starts, .ref aWa_localCounts, .ref aWa_locals, .int (bI zW5.hasMemory), .long zW5.pagesAtFirst, .long zW5.pagesMost, .int (iI zW6.globalCount), .ref aWa_globalTypes, .ref aWa_globalsChange, .ref aWa_initialTypes, .ref aWa_initialValues, .ref aEx, .ref aCo])), (aMa, .inr (6, [.ref aMa_bytes, .int (bI zAg.written), .int (iI zAg.pages), .ref aMa_globals, .int (iI zMa.steps), gMw, gMc, .int (iI zMa.reason), .int (iI zMa.next), .ref aMa_stack, .int (iI zAs.height), .ref aMa_functions, .ref aMa_bases, .ref aMa_returns, .int (iI zAf.depth), .int (iI zAf.variables), .int (iI zAf.values)])), (aMa_globals, .inl (cJ, 20, .inr (.inl zAg.globals))), (aWR, .inr (0, [.ref aTp, .int (iI zWr.tapeLength), .ref aAr, .int (iI zWr.argumentCount), .ref aRd, .ref aVa, .ref aMa, .ref aWa, .ref aW2, .int (bI zWr.loaded), .int (iI zWr.reason)]))] s.heap.size = A at hD hE hNS ⊢
  have hA : ∀ q : Nat, s.heap.size ≤ q → A q := fun q h => by rw [← hAe]; exact Or.inr h
  have hS : va_S A s.heap s.heap [] := va_S.rf
  have hl := lv_entry ([.ref aWR, .int (iI v_g)]) (n := 2) (Nat.le_of_ble_eq_true rfl)
  rw [lg_entry_eq]
  generalize (lg_sl ([.ref aWR, .int (iI v_g)]) ++ List.replicate (2 - (lg_sl ([.ref aWR, .int (iI v_g)])).length) Slot.unset).toArray = ls at hl ⊢
  have hl : lv_has ls 2 [(0, .ref aWR), (1, .int (iI v_g))] := hl
  unfold f_WR_global at hf
  refine lv_aload_n hx hb d_WR_global_0 rfl (lv_at hl 0 rfl) ?_
  replace hf := ob2 hnb hf
  rcases hf with ⟨x_1, e_2, hf⟩ | ⟨x_1, e_2, hf⟩
  · refine xx_callV (wc := [(aWR, .inr (0, [.ref aTp, .int (iI zWr.tapeLength), .ref aAr, .int (iI zWr.argumentCount), .ref aRd, .ref aVa, .ref aMa, .ref aWa, .ref aW2, .int (bI zWr.loaded), .int (iI zWr.reason)]))]) (wr := [(aWa, .inr (7, [.int (iI zW1.typeCount), .ref aWa_parameterCounts, .ref aWa_parameters, .ref aWa_results, .int (iI zW3.functionCount), .ref aWa_functionTypes, .ref aWa_starts, .ref aWa_localCounts, .ref aWa_locals, .int (bI zW5.hasMemory), .long zW5.pagesAtFirst, .long zW5.pagesMost, .int (iI zW6.globalCount), .ref aWa_globalTypes, .ref aWa_globalsChange, .ref aWa_initialTypes, .ref aWa_initialValues, .ref aEx, .ref aCo])), (aMa, .inr (6, [.ref aMa_bytes, .int (bI zAg.written), .int (iI zAg.pages), .ref aMa_globals, .int (iI zMa.steps), gMw, gMc, .int (iI zMa.reason), .int (iI zMa.next), .ref aMa_stack, .int (iI zAs.height), .ref aMa_functions, .ref aMa_bases, .ref aMa_returns, .int (iI zAf.depth), .int (iI zAf.variables), .int (iI zAf.values)])), (aMa_globals, .inl (cJ, 20, .inr (.inl zAg.globals)))]) (As := []) (rest := []) ⟨hx, hb, hml, hown, hts⟩ xE_st hK hE hA (k_WR_requireModule l htr G cB cI cJ cZ cG aWR aTp aAr aRd aVa aMa aWa aW2 zWr hzWr (.ret x_1) e_2 ret_nb _) (xw_V 0 hts m_920 m_922 ms_WR_requireModule m_1 m_923 (by decide +kernel) ⟨(Nat.le_of_ble_eq_true rfl), (Nat.le_of_ble_eq_true rfl)⟩) hP hD hS [3] [0, 1, 2] rfl rfl (by decide +kernel) (by decide +kernel) (by decide +kernel) 0 0 rfl rfl rfl rfl hl.1 rfl (Nat.le_of_ble_eq_true rfl) d_WR_global_1 ⟨(Nat.le_of_ble_eq_true rfl), (Nat.le_of_ble_eq_true rfl)⟩ (fun v9 w9 H_1 locs_1 hp hP_1 hD_1 hS_1 => ?_) (fun x9 w9 H9 l9 hp _ _ _ => absurd hp (fun q9 => by obtain ⟨-, ho, -⟩ := q9; cases ho))
    clear hS hD hP
    obtain ⟨hx_1, ho, rfl⟩ := hp
    cases ho
    have hQ9 : (fun w9 => va_P G classes w9 H_1 ∧ va_D A w9) [(aWa, .inr (7, [.int (iI zW1.typeCount), .ref aWa_parameterCounts, .ref aWa_parameters, .ref aWa_results, .int (iI zW3.functionCount), .ref aWa_functionTypes, .ref aWa_starts, .ref aWa_localCounts, .ref aWa_locals, .int (bI zW5.hasMemory), .long zW5.pagesAtFirst, .long zW5.pagesMost, .int (iI zW6.globalCount), .ref aWa_globalTypes, .ref aWa_globalsChange, .ref aWa_initialTypes, .ref aWa_initialValues, .ref aEx, .ref aCo])), (aMa, .inr (6, [.ref aMa_bytes, .int (bI zAg.written), .int (iI zAg.pages), .ref aMa_globals, .int (iI zMa.steps), gMw, gMc, .int (iI zMa.reason), .int (iI zMa.next), .ref aMa_stack, .int (iI zAs.height), .ref aMa_functions, .ref aMa_bases, .ref aMa_returns, .int (iI zAf.depth), .int (iI zAf.variables), .int (iI zAf.values)])), (aMa_globals, .inl (cJ, 20, .inr (.inl zAg.globals))), (aWR, .inr (0, [.ref aTp, .int (iI zWr.tapeLength), .ref aAr, .int (iI zWr.argumentCount), .ref aRd, .ref aVa, .ref aMa, .ref aWa, .ref aW2, .int (bI zWr.loaded), .int (iI zWr.reason)]))] := ⟨hP_1, hD_1⟩
    clear hP_1 hD_1
    obtain ⟨hP_1, hD_1⟩ := hQ9
    refine W.widen (k := 1) (n := 6) (Nat.le_of_ble_eq_true rfl) (Nat.le_of_ble_eq_true rfl) ?_
    refine lv_iload_n hx hb d_WR_global_4 rfl (lv_at hl 1 rfl) ?_
    refine lv_aload_n hx hb d_WR_global_5 rfl (lv_at hl 0 rfl) ?_
    refine va_get (D := G) (ci := 0) (v := .ref aWa) (C := R_WR) (T := F_WR) (N := 11) hx hb hts i_WR hown hK hP_1 3 rfl rfl 7 (by decide) (hts _ m_425) (fun _ h9 => h9) rfl d_WR_global_6 ?_
    refine va_get (D := G) (ci := 7) (v := .int (iI zW6.globalCount)) (C := R_Wa) (T := F_Wa) (N := 19) hx hb hts i_Wa hown hK hP_1 0 rfl rfl 12 (by decide) (hts _ m_355) (fun _ h9 => h9) rfl d_WR_global_9 ?_
    replace hf := ob2 hnb hf
    rcases hf with ⟨x_3, e_4, hf⟩ | ⟨x_3, e_4, hf⟩
    · refine xx_callS (wc := []) (wr := [(aWa, .inr (7, [.int (iI zW1.typeCount), .ref aWa_parameterCounts, .ref aWa_parameters, .ref aWa_results, .int (iI zW3.functionCount), .ref aWa_functionTypes, .ref aWa_starts, .ref aWa_localCounts, .ref aWa_locals, .int (bI zW5.hasMemory), .long zW5.pagesAtFirst, .long zW5.pagesMost, .int (iI zW6.globalCount), .ref aWa_globalTypes, .ref aWa_globalsChange, .ref aWa_initialTypes, .ref aWa_initialValues, .ref aEx, .ref aCo])), (aMa, .inr (6, [.ref aMa_bytes, .int (bI zAg.written), .int (iI zAg.pages), .ref aMa_globals, .int (iI zMa.steps), gMw, gMc, .int (iI zMa.reason), .int (iI zMa.next), .ref aMa_stack, .int (iI zAs.height), .ref aMa_functions, .ref aMa_bases, .ref aMa_returns, .int (iI zAf.depth), .int (iI zAf.variables), .int (iI zAf.values)])), (aMa_globals, .inl (cJ, 20, .inr (.inl zAg.globals))), (aWR, .inr (0, [.ref aTp, .int (iI zWr.tapeLength), .ref aAr, .int (iI zWr.argumentCount), .ref aRd, .ref aVa, .ref aMa, .ref aWa, .ref aW2, .int (bI zWr.loaded), .int (iI zWr.reason)]))]) (As := [.int (iI v_g), .int (iI zW6.globalCount)]) (rest := []) ⟨hx, hb, hml, hown, hts⟩ xE_st hK hE hA (k_WR_requireRange l htr G cB cI cJ cZ cG v_g zW6.globalCount hv_g hzW6.globalCount (.ret x_3) e_4 ret_nb _) (xw_S 2 hts m_940 m_941 m_1 m_942 (by decide +kernel) ⟨(Nat.le_of_ble_eq_true rfl), (Nat.le_of_ble_eq_true rfl)⟩) hP_1 hD_1 hS_1 [] [0, 1, 2, 3] rfl rfl (by decide +kernel) (by decide +kernel) (by decide +kernel) rfl hl.1 rfl (Nat.le_of_ble_eq_true rfl) d_WR_global_12 ⟨(Nat.le_of_ble_eq_true rfl), (Nat.le_of_ble_eq_true rfl)⟩ (fun v9 w9 H_2 locs_2 hp hP_2 hD_2 hS_2 => ?_) (fun x9 w9 H9 l9 hp _ _ _ => absurd hp (fun q9 => by obtain ⟨-, ho, -⟩ := q9; cases ho))
      clear hS_1 hD_1 hP_1
      obtain ⟨hx_3, ho, rfl⟩ := hp
      cases ho
      have hQ9 : (fun w9 => va_P G classes w9 H_2 ∧ va_D A w9) [(aWa, .inr (7, [.int (iI zW1.typeCount), .ref aWa_parameterCounts, .ref aWa_parameters, .ref aWa_results, .int (iI zW3.functionCount), .ref aWa_functionTypes, .ref aWa_starts, .ref aWa_localCounts, .ref aWa_locals, .int (bI zW5.hasMemory), .long zW5.pagesAtFirst, .long zW5.pagesMost, .int (iI zW6.globalCount), .ref aWa_globalTypes, .ref aWa_globalsChange, .ref aWa_initialTypes, .ref aWa_initialValues, .ref aEx, .ref aCo])), (aMa, .inr (6, [.ref aMa_bytes, .int (bI zAg.written), .int (iI zAg.pages), .ref aMa_globals, .int (iI zMa.steps), gMw, gMc, .int (iI zMa.reason), .int (iI zMa.next), .ref aMa_stack, .int (iI zAs.height), .ref aMa_functions, .ref aMa_bases, .ref aMa_returns, .int (iI zAf.depth), .int (iI zAf.variables), .int (iI zAf.values)])), (aMa_globals, .inl (cJ, 20, .inr (.inl zAg.globals))), (aWR, .inr (0, [.ref aTp, .int (iI zWr.tapeLength), .ref aAr, .int (iI zWr.argumentCount), .ref aRd, .ref aVa, .ref aMa, .ref aWa, .ref aW2, .int (bI zWr.loaded), .int (iI zWr.reason)]))] := ⟨hP_2, hD_2⟩
      clear hP_2 hD_2
      obtain ⟨hP_2, hD_2⟩ := hQ9
      refine W.widen (k := 2) (n := 12) (Nat.le_of_ble_eq_true rfl) (Nat.le_of_ble_eq_true rfl) ?_
      refine lv_aload_n hx hb d_WR_global_15 rfl (lv_at hl 0 rfl) ?_
      refine va_get (D := G) (ci := 0) (v := .ref aMa) (C := R_WR) (T := F_WR) (N := 11) hx hb hts i_WR hown hK hP_2 3 rfl rfl 6 (by decide) (hts _ m_424) (fun _ h9 => h9) rfl d_WR_global_16 ?_
      refine va_get (D := G) (ci := 6) (v := .ref aMa_globals) (C := R_Ma) (T := F_Ma) (N := 17) hx hb hts i_Ma hown hK hP_2 1 rfl rfl 3 (by decide) (hts _ m_163) (fun _ h9 => h9) rfl d_WR_global_19 ?_
      refine lv_iload_n hx hb d_WR_global_22 rfl (lv_at hl 1 rfl) ?_
      replace hf := grd hnb hf
      obtain ⟨g_5, hf⟩ := hf
      refine va_lald hx hb hK hP_2 2 2 rfl rfl (vp_in_iI hv_g g_5) d_WR_global_23 ?_
      refine W.eq (g2 := F0 m 24 ls [.long (zAg.globals v_g.toNat)]) (by rw [iI_clamp hv_g] <;> rfl) ?_
      exact ex_W (fun _ h => ex_mq h) (W.lret (v := zAg.globals v_g.toNat) hx hb hr (fun t ht hW => ⟨⟨_, ozr hf ⟨trivial, rfl, rfl⟩, by rw [ht]; exact hP_2, hD_2⟩, hS_2.F ht⟩) hS_2.2.2 d_WR_global_24)
    · refine xx_callS (wc := []) (wr := [(aWa, .inr (7, [.int (iI zW1.typeCount), .ref aWa_parameterCounts, .ref aWa_parameters, .ref aWa_results, .int (iI zW3.functionCount), .ref aWa_functionTypes, .ref aWa_starts, .ref aWa_localCounts, .ref aWa_locals, .int (bI zW5.hasMemory), .long zW5.pagesAtFirst, .long zW5.pagesMost, .int (iI zW6.globalCount), .ref aWa_globalTypes, .ref aWa_globalsChange, .ref aWa_initialTypes, .ref aWa_initialValues, .ref aEx, .ref aCo])), (aMa, .inr (6, [.ref aMa_bytes, .int (bI zAg.written), .int (iI zAg.pages), .ref aMa_globals, .int (iI zMa.steps), gMw, gMc, .int (iI zMa.reason), .int (iI zMa.next), .ref aMa_stack, .int (iI zAs.height), .ref aMa_functions, .ref aMa_bases, .ref aMa_returns, .int (iI zAf.depth), .int (iI zAf.variables), .int (iI zAf.values)])), (aMa_globals, .inl (cJ, 20, .inr (.inl zAg.globals))), (aWR, .inr (0, [.ref aTp, .int (iI zWr.tapeLength), .ref aAr, .int (iI zWr.argumentCount), .ref aRd, .ref aVa, .ref aMa, .ref aWa, .ref aW2, .int (bI zWr.loaded), .int (iI zWr.reason)]))]) (As := [.int (iI v_g), .int (iI zW6.globalCount)]) (rest := []) ⟨hx, hb, hml, hown, hts⟩ xE_st hK hE hA (k_WR_requireRange l htr G cB cI cJ cZ cG v_g zW6.globalCount hv_g hzW6.globalCount (.thr x_3) e_4 thr_nb _) (xw_S 2 hts m_940 m_941 m_1 m_942 (by decide +kernel) ⟨(Nat.le_of_ble_eq_true rfl), (Nat.le_of_ble_eq_true rfl)⟩) hP_1 hD_1 hS_1 [] [0, 1, 2, 3] rfl rfl (by decide +kernel) (by decide +kernel) (by decide +kernel) rfl hl.1 rfl (Nat.le_of_ble_eq_true rfl) d_WR_global_12 ⟨(Nat.le_of_ble_eq_true rfl), (Nat.le_of_ble_eq_true rfl)⟩ (fun v9 w9 H9 l9 hp _ _ _ => absurd hp (fun q9 => by obtain ⟨_, -, ho, -⟩ := q9; cases ho)) (fun x9 w9 H_3 locs_3 hp hP_3 hD_3 hS_3 => ?_)
      clear hS_1 hD_1 hP_1
      obtain ⟨x_6, hx_3, ho, rfl⟩ := hp
      have e9 : x_6 = x9 := by cases ho; rfl
      subst e9
      clear ho
      have hQ9 : (fun w9 => va_P G classes w9 H_3 ∧ va_D A w9) [(aWa, .inr (7, [.int (iI zW1.typeCount), .ref aWa_parameterCounts, .ref aWa_parameters, .ref aWa_results, .int (iI zW3.functionCount), .ref aWa_functionTypes, .ref aWa_starts, .ref aWa_localCounts, .ref aWa_locals, .int (bI zW5.hasMemory), .long zW5.pagesAtFirst, .long zW5.pagesMost, .int (iI zW6.globalCount), .ref aWa_globalTypes, .ref aWa_globalsChange, .ref aWa_initialTypes, .ref aWa_initialValues, .ref aEx, .ref aCo])), (aMa, .inr (6, [.ref aMa_bytes, .int (bI zAg.written), .int (iI zAg.pages), .ref aMa_globals, .int (iI zMa.steps), gMw, gMc, .int (iI zMa.reason), .int (iI zMa.next), .ref aMa_stack, .int (iI zAs.height), .ref aMa_functions, .ref aMa_bases, .ref aMa_returns, .int (iI zAf.depth), .int (iI zAf.variables), .int (iI zAf.values)])), (aMa_globals, .inl (cJ, 20, .inr (.inl zAg.globals))), (aWR, .inr (0, [.ref aTp, .int (iI zWr.tapeLength), .ref aAr, .int (iI zWr.argumentCount), .ref aRd, .ref aVa, .ref aMa, .ref aWa, .ref aW2, .int (bI zWr.loaded), .int (iI zWr.reason)])), (x_6, .inr (x_3, []))] := ⟨hP_3, hD_3⟩
      clear hP_3 hD_3
      obtain ⟨hP_3, hD_3⟩ := hQ9
      exact ex_out rfl rfl rfl (hno _) hlocks (fun t ht hW => ⟨⟨_, ozt hf ⟨x_6, trivial, rfl, rfl⟩, by rw [ht]; exact hP_3, hD_3⟩, hS_3.F ht⟩) hS_3.2.2
  · refine xx_callV (wc := [(aWR, .inr (0, [.ref aTp, .int (iI zWr.tapeLength), .ref aAr, .int (iI zWr.argumentCount), .ref aRd, .ref aVa, .ref aMa, .ref aWa, .ref aW2, .int (bI zWr.loaded), .int (iI zWr.reason)]))]) (wr := [(aWa, .inr (7, [.int (iI zW1.typeCount), .ref aWa_parameterCounts, .ref aWa_parameters, .ref aWa_results, .int (iI zW3.functionCount), .ref aWa_functionTypes, .ref aWa_starts, .ref aWa_localCounts, .ref aWa_locals, .int (bI zW5.hasMemory), .long zW5.pagesAtFirst, .long zW5.pagesMost, .int (iI zW6.globalCount), .ref aWa_globalTypes, .ref aWa_globalsChange, .ref aWa_initialTypes, .ref aWa_initialValues, .ref aEx, .ref aCo])), (aMa, .inr (6, [.ref aMa_bytes, .int (bI zAg.written), .int (iI zAg.pages), .ref aMa_globals, .int (iI zMa.steps), gMw, gMc, .int (iI zMa.reason), .int (iI zMa.next), .ref aMa_stack, .int (iI zAs.height), .ref aMa_functions, .ref aMa_bases, .ref aMa_returns, .int (iI zAf.depth), .int (iI zAf.variables), .int (iI zAf.values)])), (aMa_globals, .inl (cJ, 20, .inr (.inl zAg.globals)))]) (As := []) (rest := []) ⟨hx, hb, hml, hown, hts⟩ xE_st hK hE hA (k_WR_requireModule l htr G cB cI cJ cZ cG aWR aTp aAr aRd aVa aMa aWa aW2 zWr hzWr (.thr x_1) e_2 thr_nb _) (xw_V 0 hts m_920 m_922 ms_WR_requireModule m_1 m_923 (by decide +kernel) ⟨(Nat.le_of_ble_eq_true rfl), (Nat.le_of_ble_eq_true rfl)⟩) hP hD hS [3] [0, 1, 2] rfl rfl (by decide +kernel) (by decide +kernel) (by decide +kernel) 0 0 rfl rfl rfl rfl hl.1 rfl (Nat.le_of_ble_eq_true rfl) d_WR_global_1 ⟨(Nat.le_of_ble_eq_true rfl), (Nat.le_of_ble_eq_true rfl)⟩ (fun v9 w9 H9 l9 hp _ _ _ => absurd hp (fun q9 => by obtain ⟨_, -, ho, -⟩ := q9; cases ho)) (fun x9 w9 H_4 locs_4 hp hP_4 hD_4 hS_4 => ?_)
    clear hS hD hP
    obtain ⟨x_7, hx_1, ho, rfl⟩ := hp
    have e9 : x_7 = x9 := by cases ho; rfl
    subst e9
    clear ho
    have hQ9 : (fun w9 => va_P G classes w9 H_4 ∧ va_D A w9) [(aWa, .inr (7, [.int (iI zW1.typeCount), .ref aWa_parameterCounts, .ref aWa_parameters, .ref aWa_results, .int (iI zW3.functionCount), .ref aWa_functionTypes, .ref aWa_starts, .ref aWa_localCounts, .ref aWa_locals, .int (bI zW5.hasMemory), .long zW5.pagesAtFirst, .long zW5.pagesMost, .int (iI zW6.globalCount), .ref aWa_globalTypes, .ref aWa_globalsChange, .ref aWa_initialTypes, .ref aWa_initialValues, .ref aEx, .ref aCo])), (aMa, .inr (6, [.ref aMa_bytes, .int (bI zAg.written), .int (iI zAg.pages), .ref aMa_globals, .int (iI zMa.steps), gMw, gMc, .int (iI zMa.reason), .int (iI zMa.next), .ref aMa_stack, .int (iI zAs.height), .ref aMa_functions, .ref aMa_bases, .ref aMa_returns, .int (iI zAf.depth), .int (iI zAf.variables), .int (iI zAf.values)])), (aMa_globals, .inl (cJ, 20, .inr (.inl zAg.globals))), (aWR, .inr (0, [.ref aTp, .int (iI zWr.tapeLength), .ref aAr, .int (iI zWr.argumentCount), .ref aRd, .ref aVa, .ref aMa, .ref aWa, .ref aW2, .int (bI zWr.loaded), .int (iI zWr.reason)])), (x_7, .inr (x_1, []))] := ⟨hP_4, hD_4⟩
    clear hP_4 hD_4
    obtain ⟨hP_4, hD_4⟩ := hQ9
    refine WT.widen (k := 2) (n := 12) (Nat.le_of_ble_eq_true rfl) (Nat.le_of_ble_eq_true rfl) ?_
    exact ex_out rfl rfl rfl (hno _) hlocks (fun t ht hW => ⟨⟨_, ozt hf ⟨x_7, trivial, rfl, rfl⟩, by rw [ht]; exact hP_4, hD_4⟩, hS_4.F ht⟩) hS_4.2.2
set_option maxHeartbeats 8000000 in
set_option maxRecDepth 100000 in
theorem k_WR_memoryG (l : Launch) (htr : l.stackTraces = false) (G : va_G) (cB cI cJ cZ cG : ClassId) (aMa : Nat) (aMa_bytes : Nat) (aMa_globals : Nat) (aMa_stack : Nat) (aMa_functions : Nat) (aMa_bases : Nat) (aMa_returns : Nat) (aWR : Nat) (aTp : Nat) (aAr : Nat) (aRd : Nat) (aVa : Nat) (aWa : Nat) (aW2 : Nat) (zMb : KMb) (zAg : KAg) (zMa : KMa) (zAs : KAs) (zAf : KAf) (zWr : KWr) (hzMb : KMb.Ok zMb) (hzAg : KAg.Ok zAg) (hzMa : KMa.Ok zMa) (hzAs : KAs.Ok zAs) (hzAf : KAf.Ok zAf) (hzWr : KWr.Ok zWr) (gMw : Value) (gMc : Value) (v_i : Int) (hv_i : R32 v_i) (R9 : Out (Nat) (Int)) (hf : f_WR_memory zMb zAg zWr v_i = R9) (hnb : R9 ≠ .bad) (sz : Nat) : MetX l y_WR_memory (wx y_WR_memory b_WR_memory 2 (some .int)) { frames := 7, cells := 2, slots := 12, locals := 111 } (XP G classes (xtys cB cI cJ cZ cG) xE [.ref aWR, .int (iI v_i)] [(aMa, .inr (6, [.ref aMa_bytes, .int (bI zAg.written), .int (iI zAg.pages), .ref aMa_globals, .int (iI zMa.steps), gMw, gMc, .int (iI zMa.reason), .int (iI zMa.next), .ref aMa_stack, .int (iI zAs.height), .ref aMa_functions, .ref aMa_bases, .ref aMa_returns, .int (iI zAf.depth), .int (iI zAf.variables), .int (iI zAf.values)])), (aMa_bytes, .inl (cB, 131072, .inl zMb.bytes)), (aWR, .inr (0, [.ref aTp, .int (iI zWr.tapeLength), .ref aAr, .int (iI zWr.argumentCount), .ref aRd, .ref aVa, .ref aMa, .ref aWa, .ref aW2, .int (bI zWr.loaded), .int (iI zWr.reason)]))] sz) (XQ G classes (va_A [(aMa, .inr (6, [.ref aMa_bytes, .int (bI zAg.written), .int (iI zAg.pages), .ref aMa_globals, .int (iI zMa.steps), gMw, gMc, .int (iI zMa.reason), .int (iI zMa.next), .ref aMa_stack, .int (iI zAs.height), .ref aMa_functions, .ref aMa_bases, .ref aMa_returns, .int (iI zAf.depth), .int (iI zAf.variables), .int (iI zAf.values)])), (aMa_bytes, .inl (cB, 131072, .inl zMb.bytes)), (aWR, .inr (0, [.ref aTp, .int (iI zWr.tapeLength), .ref aAr, .int (iI zWr.argumentCount), .ref aRd, .ref aVa, .ref aMa, .ref aWa, .ref aW2, .int (bI zWr.loaded), .int (iI zWr.reason)]))] sz) (fun o w1 => ozp R9 (fun x9 => (R32 x9) ∧ o = .returned (some (.int (iI x9))) ∧ w1 = [(aMa, .inr (6, [.ref aMa_bytes, .int (bI zAg.written), .int (iI zAg.pages), .ref aMa_globals, .int (iI zMa.steps), gMw, gMc, .int (iI zMa.reason), .int (iI zMa.next), .ref aMa_stack, .int (iI zAs.height), .ref aMa_functions, .ref aMa_bases, .ref aMa_returns, .int (iI zAf.depth), .int (iI zAf.variables), .int (iI zAf.values)])), (aMa_bytes, .inl (cB, 131072, .inl zMb.bytes)), (aWR, .inr (0, [.ref aTp, .int (iI zWr.tapeLength), .ref aAr, .int (iI zWr.argumentCount), .ref aRd, .ref aVa, .ref aMa, .ref aWa, .ref aW2, .int (bI zWr.loaded), .int (iI zWr.reason)]))]) (fun t9 => ∃ x9e : Nat, (True) ∧ o = .threw x9e ∧ w1 = [(aMa, .inr (6, [.ref aMa_bytes, .int (bI zAg.written), .int (iI zAg.pages), .ref aMa_globals, .int (iI zMa.steps), gMw, gMc, .int (iI zMa.reason), .int (iI zMa.next), .ref aMa_stack, .int (iI zAs.height), .ref aMa_functions, .ref aMa_bases, .ref aMa_returns, .int (iI zAf.depth), .int (iI zAf.variables), .int (iI zAf.values)])), (aMa_bytes, .inl (cB, 131072, .inl zMb.bytes)), (aWR, .inr (0, [.ref aTp, .int (iI zWr.tapeLength), .ref aAr, .int (iI zWr.argumentCount), .ref aRd, .ref aVa, .ref aMa, .ref aWa, .ref aW2, .int (bI zWr.loaded), .int (iI zWr.reason)])), (x9e, .inr (t9, []))]))) 2 12 (va_A [(aMa, .inr (6, [.ref aMa_bytes, .int (bI zAg.written), .int (iI zAg.pages), .ref aMa_globals, .int (iI zMa.steps), gMw, gMc, .int (iI zMa.reason), .int (iI zMa.next), .ref aMa_stack, .int (iI zAs.height), .ref aMa_functions, .ref aMa_bases, .ref aMa_returns, .int (iI zAf.depth), .int (iI zAf.variables), .int (iI zAf.values)])), (aMa_bytes, .inl (cB, 131072, .inl zMb.bytes)), (aWR, .inr (0, [.ref aTp, .int (iI zWr.tapeLength), .ref aAr, .int (iI zWr.argumentCount), .ref aRd, .ref aVa, .ref aMa, .ref aWa, .ref aW2, .int (bI zWr.loaded), .int (iI zWr.reason)]))] sz) := by
  refine ex_ofW (cc := b_WR_memory) (maxL := 2) (ret := (some .int)) (by decide) rfl ?_
  intro p e s m args below meth c s₁ B hml hno hv
  obtain ⟨rfl, hsz, hP, hK, hD0, hE⟩ := hv
  have hx := B.exec
  have hb := B.bytes
  have hr := B.returns
  have hts : ∀ w ∈ lw_good, w.before _ s = true := fun w h => atoms_spec (ws := wx y_WR_memory b_WR_memory 2 (some .int)) B.pre w (List.mem_cons_of_mem _ h)
  have hown : s.vm.findClass R_WR = some m.cls := findClass_of_methodNamed B.named
  have hlocks := B.notSynchronized
  have htr9 : e.platform.stackTraces = false := by rw [B.admits.platform]; exact htr
  subst hsz
  have hNS := xx_nostat hP
  have hD := hD0.self (sz := s.heap.size)
  generalize hAe : va_A [(aMa, .inr (6, [.ref aMa_bytes, .int (bI zAg.written), .int (iI zAg.pages), .ref aMa_globals, .int (iI zMa.steps), gMw, gMc, .int (iI zMa.reason), .int (iI zMa.next), .ref aMa_stack, .int (iI zAs.height), .ref aMa_functions, .ref aMa_bases, .ref aMa_returns, .int (iI zAf.depth), .int (iI zAf.variables), .int (iI zAf.values)])), (aMa_bytes, .inl (cB, 131072, .inl zMb.bytes)), (aWR, .inr (0, [.ref aTp, .int (iI zWr.tapeLength), .ref aAr, .int (iI zWr.argumentCount), .ref aRd, .ref aVa, .ref aMa, .ref aWa, .ref aW2, .int (bI zWr.loaded), .int (iI zWr.reason)]))] s.heap.size = A at hD hE hNS ⊢
  have hA : ∀ q : Nat, s.heap.size ≤ q → A q := fun q h => by rw [← hAe]; exact Or.inr h
  have hS : va_S A s.heap s.heap [] := va_S.rf
  have hl := lv_entry ([.ref aWR, .int (iI v_i)]) (n := 2) (Nat.le_of_ble_eq_true rfl)
  rw [lg_entry_eq]
  generalize (lg_sl ([.ref aWR, .int (iI v_i)]) ++ List.replicate (2 - (lg_sl ([.ref aWR, .int (iI v_i)])).length) Slot.unset).toArray = ls at hl ⊢
  have hl : lv_has ls 2 [(0, .ref aWR), (1, .int (iI v_i))] := hl
  unfold f_WR_memory at hf
  refine lv_aload_n hx hb d_WR_memory_0 rfl (lv_at hl 0 rfl) ?_
  replace hf := ob2 hnb hf
  rcases hf with ⟨x_1, e_2, hf⟩ | ⟨x_1, e_2, hf⟩
  · refine xx_callV (wc := [(aWR, .inr (0, [.ref aTp, .int (iI zWr.tapeLength), .ref aAr, .int (iI zWr.argumentCount), .ref aRd, .ref aVa, .ref aMa, .ref aWa, .ref aW2, .int (bI zWr.loaded), .int (iI zWr.reason)]))]) (wr := [(aMa, .inr (6, [.ref aMa_bytes, .int (bI zAg.written), .int (iI zAg.pages), .ref aMa_globals, .int (iI zMa.steps), gMw, gMc, .int (iI zMa.reason), .int (iI zMa.next), .ref aMa_stack, .int (iI zAs.height), .ref aMa_functions, .ref aMa_bases, .ref aMa_returns, .int (iI zAf.depth), .int (iI zAf.variables), .int (iI zAf.values)])), (aMa_bytes, .inl (cB, 131072, .inl zMb.bytes))]) (As := []) (rest := []) ⟨hx, hb, hml, hown, hts⟩ xE_st hK hE hA (k_WR_requireModule l htr G cB cI cJ cZ cG aWR aTp aAr aRd aVa aMa aWa aW2 zWr hzWr (.ret x_1) e_2 ret_nb _) (xw_V 0 hts m_920 m_922 ms_WR_requireModule m_1 m_923 (by decide +kernel) ⟨(Nat.le_of_ble_eq_true rfl), (Nat.le_of_ble_eq_true rfl)⟩) hP hD hS [2] [0, 1] rfl rfl (by decide +kernel) (by decide +kernel) (by decide +kernel) 0 0 rfl rfl rfl rfl hl.1 rfl (Nat.le_of_ble_eq_true rfl) d_WR_memory_1 ⟨(Nat.le_of_ble_eq_true rfl), (Nat.le_of_ble_eq_true rfl)⟩ (fun v9 w9 H_1 locs_1 hp hP_1 hD_1 hS_1 => ?_) (fun x9 w9 H9 l9 hp _ _ _ => absurd hp (fun q9 => by obtain ⟨-, ho, -⟩ := q9; cases ho))
    clear hS hD hP
    obtain ⟨hx_1, ho, rfl⟩ := hp
    cases ho
    have hQ9 : (fun w9 => va_P G classes w9 H_1 ∧ va_D A w9) [(aMa, .inr (6, [.ref aMa_bytes, .int (bI zAg.written), .int (iI zAg.pages), .ref aMa_globals, .int (iI zMa.steps), gMw, gMc, .int (iI zMa.reason), .int (iI zMa.next), .ref aMa_stack, .int (iI zAs.height), .ref aMa_functions, .ref aMa_bases, .ref aMa_returns, .int (iI zAf.depth), .int (iI zAf.variables), .int (iI zAf.values)])), (aMa_bytes, .inl (cB, 131072, .inl zMb.bytes)), (aWR, .inr (0, [.ref aTp, .int (iI zWr.tapeLength), .ref aAr, .int (iI zWr.argumentCount), .ref aRd, .ref aVa, .ref aMa, .ref aWa, .ref aW2, .int (bI zWr.loaded), .int (iI zWr.reason)]))] := ⟨hP_1, hD_1⟩
    clear hP_1 hD_1
    obtain ⟨hP_1, hD_1⟩ := hQ9
    refine W.widen (k := 1) (n := 6) (Nat.le_of_ble_eq_true rfl) (Nat.le_of_ble_eq_true rfl) ?_
    refine lv_iload_n hx hb d_WR_memory_4 rfl (lv_at hl 1 rfl) ?_
    refine lv_aload_n hx hb d_WR_memory_5 rfl (lv_at hl 0 rfl) ?_
    refine va_get (D := G) (ci := 0) (v := .ref aMa) (C := R_WR) (T := F_WR) (N := 11) hx hb hts i_WR hown hK hP_1 2 rfl rfl 6 (by decide) (hts _ m_424) (fun _ h9 => h9) rfl d_WR_memory_6 ?_
    refine va_get (D := G) (ci := 6) (v := .int (iI zAg.pages)) (C := R_Ma) (T := F_Ma) (N := 17) hx hb hts i_Ma hown hK hP_1 0 rfl rfl 2 (by decide) (hts _ m_161) (fun _ h9 => h9) rfl d_WR_memory_9 ?_
    refine lv_ldc (v := 65536) hx hb hown (hts _ m_1115) d_WR_memory_12 ?_
    refine lv_topi (fun x9 e9 => ?_)
    obtain rfl : x9 = iI 65536 := e9.trans (by decide)
    refine lv_imul hx hb d_WR_memory_14 ?_
    refine lv_topi (fun x9 e9 => ?_)
    obtain rfl : x9 = iI (zAg.pages * 65536) := e9.trans (iI_mul _ _)
    replace hf := grd hnb hf
    obtain ⟨g_3, hf⟩ := hf
    replace hf := ob2 hnb hf
    rcases hf with ⟨x_4, e_5, hf⟩ | ⟨x_4, e_5, hf⟩
    · refine xx_callS (wc := []) (wr := [(aMa, .inr (6, [.ref aMa_bytes, .int (bI zAg.written), .int (iI zAg.pages), .ref aMa_globals, .int (iI zMa.steps), gMw, gMc, .int (iI zMa.reason), .int (iI zMa.next), .ref aMa_stack, .int (iI zAs.height), .ref aMa_functions, .ref aMa_bases, .ref aMa_returns, .int (iI zAf.depth), .int (iI zAf.variables), .int (iI zAf.values)])), (aMa_bytes, .inl (cB, 131072, .inl zMb.bytes)), (aWR, .inr (0, [.ref aTp, .int (iI zWr.tapeLength), .ref aAr, .int (iI zWr.argumentCount), .ref aRd, .ref aVa, .ref aMa, .ref aWa, .ref aW2, .int (bI zWr.loaded), .int (iI zWr.reason)]))]) (As := [.int (iI v_i), .int (iI (zAg.pages * 65536))]) (rest := []) ⟨hx, hb, hml, hown, hts⟩ xE_st hK hE hA (k_WR_requireRange l htr G cB cI cJ cZ cG v_i (zAg.pages * 65536) hv_i g_3 (.ret x_4) e_5 ret_nb _) (xw_S 2 hts m_940 m_941 m_1 m_942 (by decide +kernel) ⟨(Nat.le_of_ble_eq_true rfl), (Nat.le_of_ble_eq_true rfl)⟩) hP_1 hD_1 hS_1 [] [0, 1, 2] rfl rfl (by decide +kernel) (by decide +kernel) (by decide +kernel) rfl hl.1 rfl (Nat.le_of_ble_eq_true rfl) d_WR_memory_15 ⟨(Nat.le_of_ble_eq_true rfl), (Nat.le_of_ble_eq_true rfl)⟩ (fun v9 w9 H_2 locs_2 hp hP_2 hD_2 hS_2 => ?_) (fun x9 w9 H9 l9 hp _ _ _ => absurd hp (fun q9 => by obtain ⟨-, ho, -⟩ := q9; cases ho))
      clear hS_1 hD_1 hP_1
      obtain ⟨hx_4, ho, rfl⟩ := hp
      cases ho
      have hQ9 : (fun w9 => va_P G classes w9 H_2 ∧ va_D A w9) [(aMa, .inr (6, [.ref aMa_bytes, .int (bI zAg.written), .int (iI zAg.pages), .ref aMa_globals, .int (iI zMa.steps), gMw, gMc, .int (iI zMa.reason), .int (iI zMa.next), .ref aMa_stack, .int (iI zAs.height), .ref aMa_functions, .ref aMa_bases, .ref aMa_returns, .int (iI zAf.depth), .int (iI zAf.variables), .int (iI zAf.values)])), (aMa_bytes, .inl (cB, 131072, .inl zMb.bytes)), (aWR, .inr (0, [.ref aTp, .int (iI zWr.tapeLength), .ref aAr, .int (iI zWr.argumentCount), .ref aRd, .ref aVa, .ref aMa, .ref aWa, .ref aW2, .int (bI zWr.loaded), .int (iI zWr.reason)]))] := ⟨hP_2, hD_2⟩
      clear hP_2 hD_2
      obtain ⟨hP_2, hD_2⟩ := hQ9
      refine W.widen (k := 2) (n := 12) (Nat.le_of_ble_eq_true rfl) (Nat.le_of_ble_eq_true rfl) ?_
      refine lv_aload_n hx hb d_WR_memory_18 rfl (lv_at hl 0 rfl) ?_
      refine va_get (D := G) (ci := 0) (v := .ref aMa) (C := R_WR) (T := F_WR) (N := 11) hx hb hts i_WR hown hK hP_2 2 rfl rfl 6 (by decide) (hts _ m_424) (fun _ h9 => h9) rfl d_WR_memory_19 ?_
      refine va_get (D := G) (ci := 6) (v := .ref aMa_bytes) (C := R_Ma) (T := F_Ma) (N := 17) hx hb hts i_Ma hown hK hP_2 0 rfl rfl 0 (by decide) (hts _ m_158) (fun _ h9 => h9) rfl d_WR_memory_22 ?_
      refine lv_iload_n hx hb d_WR_memory_25 rfl (lv_at hl 1 rfl) ?_
      replace hf := grd hnb hf
      obtain ⟨g_6, hf⟩ := hf
      refine va_bald hx hb hK hP_2 1 0 rfl rfl (vp_in_iI hv_i g_6) d_WR_memory_26 ?_
      refine W.eq (g2 := F0 m 27 ls [.int (zMb.bytes v_i.toNat)]) (by rw [iI_clamp hv_i] <;> rfl) ?_
      refine lv_sipush (v := iI 255) hx hb d_WR_memory_27 (by decide) ?_
      refine lv_iand hx hb d_WR_memory_30 ?_
      refine lv_topi (fun x9 e9 => ?_)
      obtain rfl : x9 = iI (by8 (zMb.bytes v_i.toNat)) := e9.trans (by8_i _)
      exact ex_W (fun _ h => ex_mq h) (W.iret (v := iI (by8 (zMb.bytes v_i.toNat))) hx hb hr (fun t ht hW => ⟨⟨_, ozr hf ⟨(by8_R _), rfl, rfl⟩, by rw [ht]; exact hP_2, hD_2⟩, hS_2.F ht⟩) hS_2.2.2 d_WR_memory_31)
    · refine xx_callS (wc := []) (wr := [(aMa, .inr (6, [.ref aMa_bytes, .int (bI zAg.written), .int (iI zAg.pages), .ref aMa_globals, .int (iI zMa.steps), gMw, gMc, .int (iI zMa.reason), .int (iI zMa.next), .ref aMa_stack, .int (iI zAs.height), .ref aMa_functions, .ref aMa_bases, .ref aMa_returns, .int (iI zAf.depth), .int (iI zAf.variables), .int (iI zAf.values)])), (aMa_bytes, .inl (cB, 131072, .inl zMb.bytes)), (aWR, .inr (0, [.ref aTp, .int (iI zWr.tapeLength), .ref aAr, .int (iI zWr.argumentCount), .ref aRd, .ref aVa, .ref aMa, .ref aWa, .ref aW2, .int (bI zWr.loaded), .int (iI zWr.reason)]))]) (As := [.int (iI v_i), .int (iI (zAg.pages * 65536))]) (rest := []) ⟨hx, hb, hml, hown, hts⟩ xE_st hK hE hA (k_WR_requireRange l htr G cB cI cJ cZ cG v_i (zAg.pages * 65536) hv_i g_3 (.thr x_4) e_5 thr_nb _) (xw_S 2 hts m_940 m_941 m_1 m_942 (by decide +kernel) ⟨(Nat.le_of_ble_eq_true rfl), (Nat.le_of_ble_eq_true rfl)⟩) hP_1 hD_1 hS_1 [] [0, 1, 2] rfl rfl (by decide +kernel) (by decide +kernel) (by decide +kernel) rfl hl.1 rfl (Nat.le_of_ble_eq_true rfl) d_WR_memory_15 ⟨(Nat.le_of_ble_eq_true rfl), (Nat.le_of_ble_eq_true rfl)⟩ (fun v9 w9 H9 l9 hp _ _ _ => absurd hp (fun q9 => by obtain ⟨_, -, ho, -⟩ := q9; cases ho)) (fun x9 w9 H_3 locs_3 hp hP_3 hD_3 hS_3 => ?_)
      clear hS_1 hD_1 hP_1
      obtain ⟨x_7, hx_4, ho, rfl⟩ := hp
      have e9 : x_7 = x9 := by cases ho; rfl
      subst e9
      clear ho
      have hQ9 : (fun w9 => va_P G classes w9 H_3 ∧ va_D A w9) [(aMa, .inr (6, [.ref aMa_bytes, .int (bI zAg.written), .int (iI zAg.pages), .ref aMa_globals, .int (iI zMa.steps), gMw, gMc, .int (iI zMa.reason), .int (iI zMa.next), .ref aMa_stack, .int (iI zAs.height), .ref aMa_functions, .ref aMa_bases, .ref aMa_returns, .int (iI zAf.depth), .int (iI zAf.variables), .int (iI zAf.values)])), (aMa_bytes, .inl (cB, 131072, .inl zMb.bytes)), (aWR, .inr (0, [.ref aTp, .int (iI zWr.tapeLength), .ref aAr, .int (iI zWr.argumentCount), .ref aRd, .ref aVa, .ref aMa, .ref aWa, .ref aW2, .int (bI zWr.loaded), .int (iI zWr.reason)])), (x_7, .inr (x_4, []))] := ⟨hP_3, hD_3⟩
      clear hP_3 hD_3
      obtain ⟨hP_3, hD_3⟩ := hQ9
      exact ex_out rfl rfl rfl (hno _) hlocks (fun t ht hW => ⟨⟨_, ozt hf ⟨x_7, trivial, rfl, rfl⟩, by rw [ht]; exact hP_3, hD_3⟩, hS_3.F ht⟩) hS_3.2.2
  · refine xx_callV (wc := [(aWR, .inr (0, [.ref aTp, .int (iI zWr.tapeLength), .ref aAr, .int (iI zWr.argumentCount), .ref aRd, .ref aVa, .ref aMa, .ref aWa, .ref aW2, .int (bI zWr.loaded), .int (iI zWr.reason)]))]) (wr := [(aMa, .inr (6, [.ref aMa_bytes, .int (bI zAg.written), .int (iI zAg.pages), .ref aMa_globals, .int (iI zMa.steps), gMw, gMc, .int (iI zMa.reason), .int (iI zMa.next), .ref aMa_stack, .int (iI zAs.height), .ref aMa_functions, .ref aMa_bases, .ref aMa_returns, .int (iI zAf.depth), .int (iI zAf.variables), .int (iI zAf.values)])), (aMa_bytes, .inl (cB, 131072, .inl zMb.bytes))]) (As := []) (rest := []) ⟨hx, hb, hml, hown, hts⟩ xE_st hK hE hA (k_WR_requireModule l htr G cB cI cJ cZ cG aWR aTp aAr aRd aVa aMa aWa aW2 zWr hzWr (.thr x_1) e_2 thr_nb _) (xw_V 0 hts m_920 m_922 ms_WR_requireModule m_1 m_923 (by decide +kernel) ⟨(Nat.le_of_ble_eq_true rfl), (Nat.le_of_ble_eq_true rfl)⟩) hP hD hS [2] [0, 1] rfl rfl (by decide +kernel) (by decide +kernel) (by decide +kernel) 0 0 rfl rfl rfl rfl hl.1 rfl (Nat.le_of_ble_eq_true rfl) d_WR_memory_1 ⟨(Nat.le_of_ble_eq_true rfl), (Nat.le_of_ble_eq_true rfl)⟩ (fun v9 w9 H9 l9 hp _ _ _ => absurd hp (fun q9 => by obtain ⟨_, -, ho, -⟩ := q9; cases ho)) (fun x9 w9 H_4 locs_4 hp hP_4 hD_4 hS_4 => ?_)
    clear hS hD hP
    obtain ⟨x_8, hx_1, ho, rfl⟩ := hp
    have e9 : x_8 = x9 := by cases ho; rfl
    subst e9
    clear ho
    have hQ9 : (fun w9 => va_P G classes w9 H_4 ∧ va_D A w9) [(aMa, .inr (6, [.ref aMa_bytes, .int (bI zAg.written), .int (iI zAg.pages), .ref aMa_globals, .int (iI zMa.steps), gMw, gMc, .int (iI zMa.reason), .int (iI zMa.next), .ref aMa_stack, .int (iI zAs.height), .ref aMa_functions, .ref aMa_bases, .ref aMa_returns, .int (iI zAf.depth), .int (iI zAf.variables), .int (iI zAf.values)])), (aMa_bytes, .inl (cB, 131072, .inl zMb.bytes)), (aWR, .inr (0, [.ref aTp, .int (iI zWr.tapeLength), .ref aAr, .int (iI zWr.argumentCount), .ref aRd, .ref aVa, .ref aMa, .ref aWa, .ref aW2, .int (bI zWr.loaded), .int (iI zWr.reason)])), (x_8, .inr (x_1, []))] := ⟨hP_4, hD_4⟩
    clear hP_4 hD_4
    obtain ⟨hP_4, hD_4⟩ := hQ9
    refine WT.widen (k := 2) (n := 12) (Nat.le_of_ble_eq_true rfl) (Nat.le_of_ble_eq_true rfl) ?_
    exact ex_out rfl rfl rfl (hno _) hlocks (fun t ht hW => ⟨⟨_, ozt hf ⟨x_8, trivial, rfl, rfl⟩, by rw [ht]; exact hP_4, hD_4⟩, hS_4.F ht⟩) hS_4.2.2
set_option maxRecDepth 100000 in
abbrev pq_WR_countG (aWa : Nat) (aWa_parameterCounts : Nat) (aWa_parameters : Nat) (aWa_results : Nat) (aWa_functionTypes : Nat) (aWa_starts : Nat) (aWa_localCounts : Nat) (aWa_locals : Nat) (aWa_globalTypes : Nat) (aWa_globalsChange : Nat) (aWa_initialTypes : Nat) (aWa_initialValues : Nat) (aEx : Nat) (aCo : Nat) (aMa : Nat) (aMa_bytes : Nat) (aMa_globals : Nat) (aMa_stack : Nat) (aMa_functions : Nat) (aMa_bases : Nat) (aMa_returns : Nat) (aWR : Nat) (aTp : Nat) (aAr : Nat) (aRd : Nat) (aVa : Nat) (aW2 : Nat) (zW1 : KW1) (zW3 : KW3) (zW5 : KW5) (zW6 : KW6) (zAg : KAg) (zMa : KMa) (zAs : KAs) (zAf : KAf) (zWr : KWr) (gMw : Value) (gMc : Value) (R9 : Out (Nat) (Int)) := (fun (o : Outcome) (w1 : va_W) => ozp R9 (fun x9 => (R32 x9) ∧ o = .returned (some (.int (iI x9))) ∧ w1 = [(aWa, .inr (7, [.int (iI zW1.typeCount), .ref aWa_parameterCounts, .ref aWa_parameters, .ref aWa_results, .int (iI zW3.functionCount), .ref aWa_functionTypes, .ref aWa_starts, .ref aWa_localCounts, .ref aWa_locals, .int (bI zW5.hasMemory), .long zW5.pagesAtFirst, .long zW5.pagesMost, .int (iI zW6.globalCount), .ref aWa_globalTypes, .ref aWa_globalsChange, .ref aWa_initialTypes, .ref aWa_initialValues, .ref aEx, .ref aCo])), (aMa, .inr (6, [.ref aMa_bytes, .int (bI zAg.written), .int (iI zAg.pages), .ref aMa_globals, .int (iI zMa.steps), gMw, gMc, .int (iI zMa.reason), .int (iI zMa.next), .ref aMa_stack, .int (iI zAs.height), .ref aMa_functions, .ref aMa_bases, .ref aMa_returns, .int (iI zAf.depth), .int (iI zAf.variables), .int (iI zAf.values)])), (aWR, .inr (0, [.ref aTp, .int (iI zWr.tapeLength), .ref aAr, .int (iI zWr.argumentCount), .ref aRd, .ref aVa, .ref aMa, .ref aWa, .ref aW2, .int (bI zWr.loaded), .int (iI zWr.reason)]))]) (fun t9 => ∃ x9e : Nat, (True) ∧ o = .threw x9e ∧ w1 = [(aWa, .inr (7, [.int (iI zW1.typeCount), .ref aWa_parameterCounts, .ref aWa_parameters, .ref aWa_results, .int (iI zW3.functionCount), .ref aWa_functionTypes, .ref aWa_starts, .ref aWa_localCounts, .ref aWa_locals, .int (bI zW5.hasMemory), .long zW5.pagesAtFirst, .long zW5.pagesMost, .int (iI zW6.globalCount), .ref aWa_globalTypes, .ref aWa_globalsChange, .ref aWa_initialTypes, .ref aWa_initialValues, .ref aEx, .ref aCo])), (aMa, .inr (6, [.ref aMa_bytes, .int (bI zAg.written), .int (iI zAg.pages), .ref aMa_globals, .int (iI zMa.steps), gMw, gMc, .int (iI zMa.reason), .int (iI zMa.next), .ref aMa_stack, .int (iI zAs.height), .ref aMa_functions, .ref aMa_bases, .ref aMa_returns, .int (iI zAf.depth), .int (iI zAf.variables), .int (iI zAf.values)])), (aWR, .inr (0, [.ref aTp, .int (iI zWr.tapeLength), .ref aAr, .int (iI zWr.argumentCount), .ref aRd, .ref aVa, .ref aMa, .ref aWa, .ref aW2, .int (bI zWr.loaded), .int (iI zWr.reason)])), (x9e, .inr (t9, []))]))
set_option maxHeartbeats 8000000 in
set_option maxRecDepth 100000 in
theorem k_WR_countG (l : Launch) (htr : l.stackTraces = false) (G : va_G) (cB cI cJ cZ cG : ClassId) (aWa : Nat) (aWa_parameterCounts : Nat) (aWa_parameters : Nat) (aWa_results : Nat) (aWa_functionTypes : Nat) (aWa_starts : Nat) (aWa_localCounts : Nat) (aWa_locals : Nat) (aWa_globalTypes : Nat) (aWa_globalsChange : Nat) (aWa_initialTypes : Nat) (aWa_initialValues : Nat) (aEx : Nat) (aCo : Nat) (aMa : Nat) (aMa_bytes : Nat) (aMa_globals : Nat) (aMa_stack : Nat) (aMa_functions : Nat) (aMa_bases : Nat) (aMa_returns : Nat) (aWR : Nat) (aTp : Nat) (aAr : Nat) (aRd : Nat) (aVa : Nat) (aW2 : Nat) (zW1 : KW1) (zW3 : KW3) (zW5 : KW5) (zW6 : KW6) (zAg : KAg) (zMa : KMa) (zAs : KAs) (zAf : KAf) (zWr : KWr) (hzW1 : KW1.Ok zW1) (hzW3 : KW3.Ok zW3) (hzW5 : KW5.Ok zW5) (hzW6 : KW6.Ok zW6) (hzAg : KAg.Ok zAg) (hzMa : KMa.Ok zMa) (hzAs : KAs.Ok zAs) (hzAf : KAf.Ok zAf) (hzWr : KWr.Ok zWr) (gMw : Value) (gMc : Value) (v_what : Int) (hv_what : R32 v_what) (R9 : Out (Nat) (Int)) (hf : f_WR_count zW3 zW6 zAg zMa zWr v_what = R9) (hnb : R9 ≠ .bad) (sz : Nat) : MetX l y_WR_count (wx y_WR_count b_WR_count 2 (some .int)) { frames := 6, cells := 1, slots := 6, locals := 90 } (XP G classes (xtys cB cI cJ cZ cG) xE [.ref aWR, .int (iI v_what)] [(aWa, .inr (7, [.int (iI zW1.typeCount), .ref aWa_parameterCounts, .ref aWa_parameters, .ref aWa_results, .int (iI zW3.functionCount), .ref aWa_functionTypes, .ref aWa_starts, .ref aWa_localCounts, .ref aWa_locals, .int (bI zW5.hasMemory), .long zW5.pagesAtFirst, .long zW5.pagesMost, .int (iI zW6.globalCount), .ref aWa_globalTypes, .ref aWa_globalsChange, .ref aWa_initialTypes, .ref aWa_initialValues, .ref aEx, .ref aCo])), (aMa, .inr (6, [.ref aMa_bytes, .int (bI zAg.written), .int (iI zAg.pages), .ref aMa_globals, .int (iI zMa.steps), gMw, gMc, .int (iI zMa.reason), .int (iI zMa.next), .ref aMa_stack, .int (iI zAs.height), .ref aMa_functions, .ref aMa_bases, .ref aMa_returns, .int (iI zAf.depth), .int (iI zAf.variables), .int (iI zAf.values)])), (aWR, .inr (0, [.ref aTp, .int (iI zWr.tapeLength), .ref aAr, .int (iI zWr.argumentCount), .ref aRd, .ref aVa, .ref aMa, .ref aWa, .ref aW2, .int (bI zWr.loaded), .int (iI zWr.reason)]))] sz) (XQ G classes (va_A [(aWa, .inr (7, [.int (iI zW1.typeCount), .ref aWa_parameterCounts, .ref aWa_parameters, .ref aWa_results, .int (iI zW3.functionCount), .ref aWa_functionTypes, .ref aWa_starts, .ref aWa_localCounts, .ref aWa_locals, .int (bI zW5.hasMemory), .long zW5.pagesAtFirst, .long zW5.pagesMost, .int (iI zW6.globalCount), .ref aWa_globalTypes, .ref aWa_globalsChange, .ref aWa_initialTypes, .ref aWa_initialValues, .ref aEx, .ref aCo])), (aMa, .inr (6, [.ref aMa_bytes, .int (bI zAg.written), .int (iI zAg.pages), .ref aMa_globals, .int (iI zMa.steps), gMw, gMc, .int (iI zMa.reason), .int (iI zMa.next), .ref aMa_stack, .int (iI zAs.height), .ref aMa_functions, .ref aMa_bases, .ref aMa_returns, .int (iI zAf.depth), .int (iI zAf.variables), .int (iI zAf.values)])), (aWR, .inr (0, [.ref aTp, .int (iI zWr.tapeLength), .ref aAr, .int (iI zWr.argumentCount), .ref aRd, .ref aVa, .ref aMa, .ref aWa, .ref aW2, .int (bI zWr.loaded), .int (iI zWr.reason)]))] sz) (fun o w1 => ozp R9 (fun x9 => (R32 x9) ∧ o = .returned (some (.int (iI x9))) ∧ w1 = [(aWa, .inr (7, [.int (iI zW1.typeCount), .ref aWa_parameterCounts, .ref aWa_parameters, .ref aWa_results, .int (iI zW3.functionCount), .ref aWa_functionTypes, .ref aWa_starts, .ref aWa_localCounts, .ref aWa_locals, .int (bI zW5.hasMemory), .long zW5.pagesAtFirst, .long zW5.pagesMost, .int (iI zW6.globalCount), .ref aWa_globalTypes, .ref aWa_globalsChange, .ref aWa_initialTypes, .ref aWa_initialValues, .ref aEx, .ref aCo])), (aMa, .inr (6, [.ref aMa_bytes, .int (bI zAg.written), .int (iI zAg.pages), .ref aMa_globals, .int (iI zMa.steps), gMw, gMc, .int (iI zMa.reason), .int (iI zMa.next), .ref aMa_stack, .int (iI zAs.height), .ref aMa_functions, .ref aMa_bases, .ref aMa_returns, .int (iI zAf.depth), .int (iI zAf.variables), .int (iI zAf.values)])), (aWR, .inr (0, [.ref aTp, .int (iI zWr.tapeLength), .ref aAr, .int (iI zWr.argumentCount), .ref aRd, .ref aVa, .ref aMa, .ref aWa, .ref aW2, .int (bI zWr.loaded), .int (iI zWr.reason)]))]) (fun t9 => ∃ x9e : Nat, (True) ∧ o = .threw x9e ∧ w1 = [(aWa, .inr (7, [.int (iI zW1.typeCount), .ref aWa_parameterCounts, .ref aWa_parameters, .ref aWa_results, .int (iI zW3.functionCount), .ref aWa_functionTypes, .ref aWa_starts, .ref aWa_localCounts, .ref aWa_locals, .int (bI zW5.hasMemory), .long zW5.pagesAtFirst, .long zW5.pagesMost, .int (iI zW6.globalCount), .ref aWa_globalTypes, .ref aWa_globalsChange, .ref aWa_initialTypes, .ref aWa_initialValues, .ref aEx, .ref aCo])), (aMa, .inr (6, [.ref aMa_bytes, .int (bI zAg.written), .int (iI zAg.pages), .ref aMa_globals, .int (iI zMa.steps), gMw, gMc, .int (iI zMa.reason), .int (iI zMa.next), .ref aMa_stack, .int (iI zAs.height), .ref aMa_functions, .ref aMa_bases, .ref aMa_returns, .int (iI zAf.depth), .int (iI zAf.variables), .int (iI zAf.values)])), (aWR, .inr (0, [.ref aTp, .int (iI zWr.tapeLength), .ref aAr, .int (iI zWr.argumentCount), .ref aRd, .ref aVa, .ref aMa, .ref aWa, .ref aW2, .int (bI zWr.loaded), .int (iI zWr.reason)])), (x9e, .inr (t9, []))]))) 1 6 (va_A [(aWa, .inr (7, [.int (iI zW1.typeCount), .ref aWa_parameterCounts, .ref aWa_parameters, .ref aWa_results, .int (iI zW3.functionCount), .ref aWa_functionTypes, .ref aWa_starts, .ref aWa_localCounts, .ref aWa_locals, .int (bI zW5.hasMemory), .long zW5.pagesAtFirst, .long zW5.pagesMost, .int (iI zW6.globalCount), .ref aWa_globalTypes, .ref aWa_globalsChange, .ref aWa_initialTypes, .ref aWa_initialValues, .ref aEx, .ref aCo])), (aMa, .inr (6, [.ref aMa_bytes, .int (bI zAg.written), .int (iI zAg.pages), .ref aMa_globals, .int (iI zMa.steps), gMw, gMc, .int (iI zMa.reason), .int (iI zMa.next), .ref aMa_stack, .int (iI zAs.height), .ref aMa_functions, .ref aMa_bases, .ref aMa_returns, .int (iI zAf.depth), .int (iI zAf.variables), .int (iI zAf.values)])), (aWR, .inr (0, [.ref aTp, .int (iI zWr.tapeLength), .ref aAr, .int (iI zWr.argumentCount), .ref aRd, .ref aVa, .ref aMa, .ref aWa, .ref aW2, .int (bI zWr.loaded), .int (iI zWr.reason)]))] sz) := by
  refine ex_ofW (cc := b_WR_count) (maxL := 2) (ret := (some .int)) (by decide) rfl ?_
  intro p e s m args below meth c s₁ B hml hno hv
  obtain ⟨rfl, hsz, hP, hK, hD0, hE⟩ := hv
  have hx := B.exec
  have hb := B.bytes
  have hr := B.returns
  have hts : ∀ w ∈ lw_good, w.before _ s = true := fun w h => atoms_spec (ws := wx y_WR_count b_WR_count 2 (some .int)) B.pre w (List.mem_cons_of_mem _ h)
  have hown : s.vm.findClass R_WR = some m.cls := findClass_of_methodNamed B.named
  have hlocks := B.notSynchronized
  have htr9 : e.platform.stackTraces = false := by rw [B.admits.platform]; exact htr
  subst hsz
  have hNS := xx_nostat hP
  have hD := hD0.self (sz := s.heap.size)
  generalize hAe : va_A [(aWa, .inr (7, [.int (iI zW1.typeCount), .ref aWa_parameterCounts, .ref aWa_parameters, .ref aWa_results, .int (iI zW3.functionCount), .ref aWa_functionTypes, .ref aWa_starts, .ref aWa_localCounts, .ref aWa_locals, .int (bI zW5.hasMemory), .long zW5.pagesAtFirst, .long zW5.pagesMost, .int (iI zW6.globalCount), .ref aWa_globalTypes, .ref aWa_globalsChange, .ref aWa_initialTypes, .ref aWa_initialValues, .ref aEx, .ref aCo])), (aMa, .inr (6, [.ref aMa_bytes, .int (bI zAg.written), .int (iI zAg.pages), .ref aMa_globals, .int (iI zMa.steps), gMw, gMc, .int (iI zMa.reason), .int (iI zMa.next), .ref aMa_stack, .int (iI zAs.height), .ref aMa_functions, .ref aMa_bases, .ref aMa_returns, .int (iI zAf.depth), .int (iI zAf.variables), .int (iI zAf.values)])), (aWR, .inr (0, [.ref aTp, .int (iI zWr.tapeLength), .ref aAr, .int (iI zWr.argumentCount), .ref aRd, .ref aVa, .ref aMa, .ref aWa, .ref aW2, .int (bI zWr.loaded), .int (iI zWr.reason)]))] s.heap.size = A at hD hE hNS ⊢
  have hA : ∀ q : Nat, s.heap.size ≤ q → A q := fun q h => by rw [← hAe]; exact Or.inr h
  have hS : va_S A s.heap s.heap [] := va_S.rf
  have hl := lv_entry ([.ref aWR, .int (iI v_what)]) (n := 2) (Nat.le_of_ble_eq_true rfl)
  rw [lg_entry_eq]
  generalize (lg_sl ([.ref aWR, .int (iI v_what)]) ++ List.replicate (2 - (lg_sl ([.ref aWR, .int (iI v_what)])).length) Slot.unset).toArray = ls at hl ⊢
  have hl : lv_has ls 2 [(0, .ref aWR), (1, .int (iI v_what))] := hl
  unfold f_WR_count at hf
  refine lv_iload_n hx hb d_WR_count_0 rfl (lv_at hl 1 rfl) ?_
  rcases Decidable.em (v_what = 0) with q_1 | q_1
  · replace hf := ifp q_1 hf
    refine lv_tableIn (off := 43) (tgt := 44) hx hb d_WR_count_1 (by rw [(iI_t hv_what).trans q_1]; decide) (by rw [(iI_t hv_what).trans q_1]; decide) (by rw [(iI_t hv_what).trans q_1]; rfl) (by decide) ?_
    refine lv_aload_n hx hb d_WR_count_44 rfl (lv_at hl 0 rfl) ?_
    refine va_get (D := G) (ci := 0) (v := .int (iI zWr.tapeLength)) (C := R_WR) (T := F_WR) (N := 11) hx hb hts i_WR hown hK hP 2 rfl rfl 1 (by decide) (hts _ m_419) (fun _ h9 => h9) rfl d_WR_count_45 ?_
    refine W.widen (k := 1) (n := 6) (Nat.le_of_ble_eq_true rfl) (Nat.le_of_ble_eq_true rfl) ?_
    exact ex_W (fun _ h => ex_mq h) (W.iret (v := iI zWr.tapeLength) hx hb hr (fun t ht hW => ⟨⟨_, ozr hf ⟨hzWr.tapeLength, rfl, rfl⟩, by rw [ht]; exact hP, hD⟩, hS.F ht⟩) hS.2.2 d_WR_count_48)
  replace hf := ifn q_1 hf
  rcases Decidable.em (v_what = 1) with q_2 | q_2
  · replace hf := ifp q_2 hf
    refine lv_tableIn (off := 48) (tgt := 49) hx hb d_WR_count_1 (by rw [(iI_t hv_what).trans q_2]; decide) (by rw [(iI_t hv_what).trans q_2]; decide) (by rw [(iI_t hv_what).trans q_2]; rfl) (by decide) ?_
    refine lv_aload_n hx hb d_WR_count_49 rfl (lv_at hl 0 rfl) ?_
    refine va_get (D := G) (ci := 0) (v := .int (iI zWr.reason)) (C := R_WR) (T := F_WR) (N := 11) hx hb hts i_WR hown hK hP 2 rfl rfl 10 (by decide) (hts _ m_428) (fun _ h9 => h9) rfl d_WR_count_50 ?_
    refine W.widen (k := 1) (n := 6) (Nat.le_of_ble_eq_true rfl) (Nat.le_of_ble_eq_true rfl) ?_
    exact ex_W (fun _ h => ex_mq h) (W.iret (v := iI zWr.reason) hx hb hr (fun t ht hW => ⟨⟨_, ozr hf ⟨hzWr.reason, rfl, rfl⟩, by rw [ht]; exact hP, hD⟩, hS.F ht⟩) hS.2.2 d_WR_count_53)
  replace hf := ifn q_2 hf
  rcases Decidable.em (v_what = 2) with q_3 | q_3
  · replace hf := ifp q_3 hf
    refine lv_tableIn (off := 53) (tgt := 54) hx hb d_WR_count_1 (by rw [(iI_t hv_what).trans q_3]; decide) (by rw [(iI_t hv_what).trans q_3]; decide) (by rw [(iI_t hv_what).trans q_3]; rfl) (by decide) ?_
    refine lv_aload_n hx hb d_WR_count_54 rfl (lv_at hl 0 rfl) ?_
    refine va_get (D := G) (ci := 0) (v := .int (bI zWr.loaded)) (C := R_WR) (T := F_WR) (N := 11) hx hb hts i_WR hown hK hP 2 rfl rfl 9 (by decide) (hts _ m_427) (fun _ h9 => h9) rfl d_WR_count_55 ?_
    refine jpE hf (fun K_5 hK_5 hf9 => ?_)
    replace hf := hf9
    clear hf9
    have hJK_5 : ∀ (y_4 : Int), R32 y_4 → K_5 y_4 = R9 → ∀ (H : Heap) (locs : List Loc), (fun w9 => va_P G classes w9 H → va_D A w9 → va_S A s.heap H locs → ∀ (ls : Array Slot), lv_has ls 2 [(0, .ref aWR), (1, .int (iI v_what))] → W p l e (headSpec (wx y_WR_count b_WR_count 2 (some .int)) { frames := 6, cells := 1, slots := 6, locals := 90 }).room s m ([.ref aWR, .int (iI v_what)] : List Value).toArray below meth c H locs 0 0 (MX below (XQ G classes A (pq_WR_countG aWa aWa_parameterCounts aWa_parameters aWa_results aWa_functionTypes aWa_starts aWa_localCounts aWa_locals aWa_globalTypes aWa_globalsChange aWa_initialTypes aWa_initialValues aEx aCo aMa aMa_bytes aMa_globals aMa_stack aMa_functions aMa_bases aMa_returns aWR aTp aAr aRd aVa aW2 zW1 zW3 zW5 zW6 zAg zMa zAs zAf zWr gMw gMc R9)) ([.ref aWR, .int (iI v_what)] : List Value).toArray s 1 6 A) (F0 m 72 ls [.int (iI y_4)])) [(aWa, .inr (7, [.int (iI zW1.typeCount), .ref aWa_parameterCounts, .ref aWa_parameters, .ref aWa_results, .int (iI zW3.functionCount), .ref aWa_functionTypes, .ref aWa_starts, .ref aWa_localCounts, .ref aWa_locals, .int (bI zW5.hasMemory), .long zW5.pagesAtFirst, .long zW5.pagesMost, .int (iI zW6.globalCount), .ref aWa_globalTypes, .ref aWa_globalsChange, .ref aWa_initialTypes, .ref aWa_initialValues, .ref aEx, .ref aCo])), (aMa, .inr (6, [.ref aMa_bytes, .int (bI zAg.written), .int (iI zAg.pages), .ref aMa_globals, .int (iI zMa.steps), gMw, gMc, .int (iI zMa.reason), .int (iI zMa.next), .ref aMa_stack, .int (iI zAs.height), .ref aMa_functions, .ref aMa_bases, .ref aMa_returns, .int (iI zAf.depth), .int (iI zAf.variables), .int (iI zAf.values)])), (aWR, .inr (0, [.ref aTp, .int (iI zWr.tapeLength), .ref aAr, .int (iI zWr.argumentCount), .ref aRd, .ref aVa, .ref aMa, .ref aWa, .ref aW2, .int (bI zWr.loaded), .int (iI zWr.reason)]))] := by
      intro y_4 hy_4 hf H_1 locs_1 hP_1 hD_1 hS_1 ls hl
      clear hS hD hP
      replace hf := (congrFun hK_5 y_4).symm.trans hf
      clear hK_5
      refine W.widen (k := 1) (n := 6) (Nat.le_of_ble_eq_true rfl) (Nat.le_of_ble_eq_true rfl) ?_
      exact ex_W (fun _ h => ex_mq h) (W.iret (v := iI y_4) hx hb hr (fun t ht hW => ⟨⟨_, ozr hf ⟨hy_4, rfl, rfl⟩, by rw [ht]; exact hP_1, hD_1⟩, hS_1.F ht⟩) hS_1.2.2 d_WR_count_72)
    clear hK_5
    refine lv_if_eq (tgt := 71) hx hb d_WR_count_58 (by decide) (fun c_6 => ?_) (fun c_6 => ?_)
    · have c_6 := (zb_f c_6)
      replace hf := ifn c_6 hf
      refine lv_iconst (v := iI (-1)) hx hb d_WR_count_71 (by decide) ?_
      exact hJK_5 (-1) (show R32 (-1) by decide) hf _ _ hP hD hS _ (lv_sub hl [0, 1] rfl)
    · have c_6 := (zb_t c_6)
      replace hf := ifp c_6 hf
      refine lv_aload_n hx hb d_WR_count_61 rfl (lv_at hl 0 rfl) ?_
      refine va_get (D := G) (ci := 0) (v := .ref aWa) (C := R_WR) (T := F_WR) (N := 11) hx hb hts i_WR hown hK hP 2 rfl rfl 7 (by decide) (hts _ m_425) (fun _ h9 => h9) rfl d_WR_count_62 ?_
      refine va_get (D := G) (ci := 7) (v := .int (iI zW3.functionCount)) (C := R_Wa) (T := F_Wa) (N := 19) hx hb hts i_Wa hown hK hP 0 rfl rfl 4 (by decide) (hts _ m_326) (fun _ h9 => h9) rfl d_WR_count_65 ?_
      refine lv_goto (tgt := 72) hx hb d_WR_count_68 (by decide) ?_
      exact hJK_5 zW3.functionCount hzW3.functionCount hf _ _ hP hD hS _ (lv_sub hl [0, 1] rfl)
  replace hf := ifn q_3 hf
  rcases Decidable.em (v_what = 3) with q_7 | q_7
  · replace hf := ifp q_7 hf
    refine lv_tableIn (off := 72) (tgt := 73) hx hb d_WR_count_1 (by rw [(iI_t hv_what).trans q_7]; decide) (by rw [(iI_t hv_what).trans q_7]; decide) (by rw [(iI_t hv_what).trans q_7]; rfl) (by decide) ?_
    refine lv_aload_n hx hb d_WR_count_73 rfl (lv_at hl 0 rfl) ?_
    refine va_get (D := G) (ci := 0) (v := .int (bI zWr.loaded)) (C := R_WR) (T := F_WR) (N := 11) hx hb hts i_WR hown hK hP 2 rfl rfl 9 (by decide) (hts _ m_427) (fun _ h9 => h9) rfl d_WR_count_74 ?_
    refine jpE hf (fun K_9 hK_9 hf9 => ?_)
    replace hf := hf9
    clear hf9
    have hJK_9 : ∀ (y_8 : Int), R32 y_8 → K_9 y_8 = R9 → ∀ (H : Heap) (locs : List Loc), (fun w9 => va_P G classes w9 H → va_D A w9 → va_S A s.heap H locs → ∀ (ls : Array Slot), lv_has ls 2 [(0, .ref aWR), (1, .int (iI v_what))] → W p l e (headSpec (wx y_WR_count b_WR_count 2 (some .int)) { frames := 6, cells := 1, slots := 6, locals := 90 }).room s m ([.ref aWR, .int (iI v_what)] : List Value).toArray below meth c H locs 0 0 (MX below (XQ G classes A (pq_WR_countG aWa aWa_parameterCounts aWa_parameters aWa_results aWa_functionTypes aWa_starts aWa_localCounts aWa_locals aWa_globalTypes aWa_globalsChange aWa_initialTypes aWa_initialValues aEx aCo aMa aMa_bytes aMa_globals aMa_stack aMa_functions aMa_bases aMa_returns aWR aTp aAr aRd aVa aW2 zW1 zW3 zW5 zW6 zAg zMa zAs zAf zWr gMw gMc R9)) ([.ref aWR, .int (iI v_what)] : List Value).toArray s 1 6 A) (F0 m 91 ls [.int (iI y_8)])) [(aWa, .inr (7, [.int (iI zW1.typeCount), .ref aWa_parameterCounts, .ref aWa_parameters, .ref aWa_results, .int (iI zW3.functionCount), .ref aWa_functionTypes, .ref aWa_starts, .ref aWa_localCounts, .ref aWa_locals, .int (bI zW5.hasMemory), .long zW5.pagesAtFirst, .long zW5.pagesMost, .int (iI zW6.globalCount), .ref aWa_globalTypes, .ref aWa_globalsChange, .ref aWa_initialTypes, .ref aWa_initialValues, .ref aEx, .ref aCo])), (aMa, .inr (6, [.ref aMa_bytes, .int (bI zAg.written), .int (iI zAg.pages), .ref aMa_globals, .int (iI zMa.steps), gMw, gMc, .int (iI zMa.reason), .int (iI zMa.next), .ref aMa_stack, .int (iI zAs.height), .ref aMa_functions, .ref aMa_bases, .ref aMa_returns, .int (iI zAf.depth), .int (iI zAf.variables), .int (iI zAf.values)])), (aWR, .inr (0, [.ref aTp, .int (iI zWr.tapeLength), .ref aAr, .int (iI zWr.argumentCount), .ref aRd, .ref aVa, .ref aMa, .ref aWa, .ref aW2, .int (bI zWr.loaded), .int (iI zWr.reason)]))] := by
      intro y_8 hy_8 hf H_2 locs_2 hP_2 hD_2 hS_2 ls hl
      clear hS hD hP
      replace hf := (congrFun hK_9 y_8).symm.trans hf
      clear hK_9
      refine W.widen (k := 1) (n := 6) (Nat.le_of_ble_eq_true rfl) (Nat.le_of_ble_eq_true rfl) ?_
      exact ex_W (fun _ h => ex_mq h) (W.iret (v := iI y_8) hx hb hr (fun t ht hW => ⟨⟨_, ozr hf ⟨hy_8, rfl, rfl⟩, by rw [ht]; exact hP_2, hD_2⟩, hS_2.F ht⟩) hS_2.2.2 d_WR_count_91)
    clear hK_9
    refine lv_if_eq (tgt := 90) hx hb d_WR_count_77 (by decide) (fun c_10 => ?_) (fun c_10 => ?_)
    · have c_10 := (zb_f c_10)
      replace hf := ifn c_10 hf
      refine lv_iconst (v := iI (-1)) hx hb d_WR_count_90 (by decide) ?_
      exact hJK_9 (-1) (show R32 (-1) by decide) hf _ _ hP hD hS _ (lv_sub hl [0, 1] rfl)
    · have c_10 := (zb_t c_10)
      replace hf := ifp c_10 hf
      refine lv_aload_n hx hb d_WR_count_80 rfl (lv_at hl 0 rfl) ?_
      refine va_get (D := G) (ci := 0) (v := .ref aWa) (C := R_WR) (T := F_WR) (N := 11) hx hb hts i_WR hown hK hP 2 rfl rfl 7 (by decide) (hts _ m_425) (fun _ h9 => h9) rfl d_WR_count_81 ?_
      refine va_get (D := G) (ci := 7) (v := .int (iI zW6.globalCount)) (C := R_Wa) (T := F_Wa) (N := 19) hx hb hts i_Wa hown hK hP 0 rfl rfl 12 (by decide) (hts _ m_355) (fun _ h9 => h9) rfl d_WR_count_84 ?_
      refine lv_goto (tgt := 91) hx hb d_WR_count_87 (by decide) ?_
      exact hJK_9 zW6.globalCount hzW6.globalCount hf _ _ hP hD hS _ (lv_sub hl [0, 1] rfl)
  replace hf := ifn q_7 hf
  rcases Decidable.em (v_what = 4) with q_11 | q_11
  · replace hf := ifp q_11 hf
    refine lv_tableIn (off := 91) (tgt := 92) hx hb d_WR_count_1 (by rw [(iI_t hv_what).trans q_11]; decide) (by rw [(iI_t hv_what).trans q_11]; decide) (by rw [(iI_t hv_what).trans q_11]; rfl) (by decide) ?_
    refine lv_aload_n hx hb d_WR_count_92 rfl (lv_at hl 0 rfl) ?_
    refine va_get (D := G) (ci := 0) (v := .int (bI zWr.loaded)) (C := R_WR) (T := F_WR) (N := 11) hx hb hts i_WR hown hK hP 2 rfl rfl 9 (by decide) (hts _ m_427) (fun _ h9 => h9) rfl d_WR_count_93 ?_
    refine jpE hf (fun K_13 hK_13 hf9 => ?_)
    replace hf := hf9
    clear hf9
    have hJK_13 : ∀ (y_12 : Int), R32 y_12 → K_13 y_12 = R9 → ∀ (H : Heap) (locs : List Loc), (fun w9 => va_P G classes w9 H → va_D A w9 → va_S A s.heap H locs → ∀ (ls : Array Slot), lv_has ls 2 [(0, .ref aWR), (1, .int (iI v_what))] → W p l e (headSpec (wx y_WR_count b_WR_count 2 (some .int)) { frames := 6, cells := 1, slots := 6, locals := 90 }).room s m ([.ref aWR, .int (iI v_what)] : List Value).toArray below meth c H locs 0 0 (MX below (XQ G classes A (pq_WR_countG aWa aWa_parameterCounts aWa_parameters aWa_results aWa_functionTypes aWa_starts aWa_localCounts aWa_locals aWa_globalTypes aWa_globalsChange aWa_initialTypes aWa_initialValues aEx aCo aMa aMa_bytes aMa_globals aMa_stack aMa_functions aMa_bases aMa_returns aWR aTp aAr aRd aVa aW2 zW1 zW3 zW5 zW6 zAg zMa zAs zAf zWr gMw gMc R9)) ([.ref aWR, .int (iI v_what)] : List Value).toArray s 1 6 A) (F0 m 110 ls [.int (iI y_12)])) [(aWa, .inr (7, [.int (iI zW1.typeCount), .ref aWa_parameterCounts, .ref aWa_parameters, .ref aWa_results, .int (iI zW3.functionCount), .ref aWa_functionTypes, .ref aWa_starts, .ref aWa_localCounts, .ref aWa_locals, .int (bI zW5.hasMemory), .long zW5.pagesAtFirst, .long zW5.pagesMost, .int (iI zW6.globalCount), .ref aWa_globalTypes, .ref aWa_globalsChange, .ref aWa_initialTypes, .ref aWa_initialValues, .ref aEx, .ref aCo])), (aMa, .inr (6, [.ref aMa_bytes, .int (bI zAg.written), .int (iI zAg.pages), .ref aMa_globals, .int (iI zMa.steps), gMw, gMc, .int (iI zMa.reason), .int (iI zMa.next), .ref aMa_stack, .int (iI zAs.height), .ref aMa_functions, .ref aMa_bases, .ref aMa_returns, .int (iI zAf.depth), .int (iI zAf.variables), .int (iI zAf.values)])), (aWR, .inr (0, [.ref aTp, .int (iI zWr.tapeLength), .ref aAr, .int (iI zWr.argumentCount), .ref aRd, .ref aVa, .ref aMa, .ref aWa, .ref aW2, .int (bI zWr.loaded), .int (iI zWr.reason)]))] := by
      intro y_12 hy_12 hf H_3 locs_3 hP_3 hD_3 hS_3 ls hl
      clear hS hD hP
      replace hf := (congrFun hK_13 y_12).symm.trans hf
      clear hK_13
      refine W.widen (k := 1) (n := 6) (Nat.le_of_ble_eq_true rfl) (Nat.le_of_ble_eq_true rfl) ?_
      exact ex_W (fun _ h => ex_mq h) (W.iret (v := iI y_12) hx hb hr (fun t ht hW => ⟨⟨_, ozr hf ⟨hy_12, rfl, rfl⟩, by rw [ht]; exact hP_3, hD_3⟩, hS_3.F ht⟩) hS_3.2.2 d_WR_count_110)
    clear hK_13
    refine lv_if_eq (tgt := 109) hx hb d_WR_count_96 (by decide) (fun c_14 => ?_) (fun c_14 => ?_)
    · have c_14 := (zb_f c_14)
      replace hf := ifn c_14 hf
      refine lv_iconst (v := iI (-1)) hx hb d_WR_count_109 (by decide) ?_
      exact hJK_13 (-1) (show R32 (-1) by decide) hf _ _ hP hD hS _ (lv_sub hl [0, 1] rfl)
    · have c_14 := (zb_t c_14)
      replace hf := ifp c_14 hf
      refine lv_aload_n hx hb d_WR_count_99 rfl (lv_at hl 0 rfl) ?_
      refine va_get (D := G) (ci := 0) (v := .ref aMa) (C := R_WR) (T := F_WR) (N := 11) hx hb hts i_WR hown hK hP 2 rfl rfl 6 (by decide) (hts _ m_424) (fun _ h9 => h9) rfl d_WR_count_100 ?_
      refine va_get (D := G) (ci := 6) (v := .int (iI zAg.pages)) (C := R_Ma) (T := F_Ma) (N := 17) hx hb hts i_Ma hown hK hP 1 rfl rfl 2 (by decide) (hts _ m_161) (fun _ h9 => h9) rfl d_WR_count_103 ?_
      refine lv_goto (tgt := 110) hx hb d_WR_count_106 (by decide) ?_
      exact hJK_13 zAg.pages hzAg.pages hf _ _ hP hD hS _ (lv_sub hl [0, 1] rfl)
  replace hf := ifn q_11 hf
  rcases Decidable.em (v_what = 5) with q_15 | q_15
  · replace hf := ifp q_15 hf
    refine lv_tableIn (off := 110) (tgt := 111) hx hb d_WR_count_1 (by rw [(iI_t hv_what).trans q_15]; decide) (by rw [(iI_t hv_what).trans q_15]; decide) (by rw [(iI_t hv_what).trans q_15]; rfl) (by decide) ?_
    refine lv_aload_n hx hb d_WR_count_111 rfl (lv_at hl 0 rfl) ?_
    refine va_get (D := G) (ci := 0) (v := .ref aMa) (C := R_WR) (T := F_WR) (N := 11) hx hb hts i_WR hown hK hP 2 rfl rfl 6 (by decide) (hts _ m_424) (fun _ h9 => h9) rfl d_WR_count_112 ?_
    refine va_get (D := G) (ci := 6) (v := .int (iI zMa.steps)) (C := R_Ma) (T := F_Ma) (N := 17) hx hb hts i_Ma hown hK hP 1 rfl rfl 4 (by decide) (hts _ m_165) (fun _ h9 => h9) rfl d_WR_count_115 ?_
    refine W.widen (k := 1) (n := 6) (Nat.le_of_ble_eq_true rfl) (Nat.le_of_ble_eq_true rfl) ?_
    exact ex_W (fun _ h => ex_mq h) (W.iret (v := iI zMa.steps) hx hb hr (fun t ht hW => ⟨⟨_, ozr hf ⟨hzMa.steps, rfl, rfl⟩, by rw [ht]; exact hP, hD⟩, hS.F ht⟩) hS.2.2 d_WR_count_118)
  replace hf := ifn q_15 hf
  rcases Decidable.em (v_what = 6) with q_16 | q_16
  · replace hf := ifp q_16 hf
    refine lv_tableIn (off := 118) (tgt := 119) hx hb d_WR_count_1 (by rw [(iI_t hv_what).trans q_16]; decide) (by rw [(iI_t hv_what).trans q_16]; decide) (by rw [(iI_t hv_what).trans q_16]; rfl) (by decide) ?_
    refine lv_aload_n hx hb d_WR_count_119 rfl (lv_at hl 0 rfl) ?_
    refine va_get (D := G) (ci := 0) (v := .int (iI zWr.argumentCount)) (C := R_WR) (T := F_WR) (N := 11) hx hb hts i_WR hown hK hP 2 rfl rfl 3 (by decide) (hts _ m_421) (fun _ h9 => h9) rfl d_WR_count_120 ?_
    refine W.widen (k := 1) (n := 6) (Nat.le_of_ble_eq_true rfl) (Nat.le_of_ble_eq_true rfl) ?_
    exact ex_W (fun _ h => ex_mq h) (W.iret (v := iI zWr.argumentCount) hx hb hr (fun t ht hW => ⟨⟨_, ozr hf ⟨hzWr.argumentCount, rfl, rfl⟩, by rw [ht]; exact hP, hD⟩, hS.F ht⟩) hS.2.2 d_WR_count_123)
  replace hf := ifn q_16 hf
  rcases Decidable.em (v_what < 0 ∨ 6 < v_what) with q_17 | q_17
  · refine lv_tableOut (tgt := 124) hx hb d_WR_count_1 (by rw [iI_t hv_what]; exact q_17) (by decide) ?_
    obtain ⟨qs, hZ⟩ := xE_text hE tx_152
    refine xx_throwNew (cls := "java/lang/IllegalArgumentException") (names := ["java/lang/RuntimeException", "java/lang/Exception"]) (own := R_WR) hx htr9 hb hml hown (hts _ m_554) (hts _ m_555) (hts _ m_18) hZ (xE_atoms hE hts at_R_WR_67) (by decide +kernel) (by decide +kernel) hK 14 rfl hP hD hS hA hNS hl.1 d_WR_count_124 d_WR_count_127 d_WR_count_128 d_WR_count_130 d_WR_count_133 (Nat.le_of_ble_eq_true rfl) (Nat.le_of_ble_eq_true rfl) (Nat.le_of_ble_eq_true rfl) (Nat.le_of_ble_eq_true rfl) (fun x_18 H locs hP hD hS => ?_)
    have hQ9 : (fun w9 => va_P G classes w9 H ∧ va_D A w9) [(aWa, .inr (7, [.int (iI zW1.typeCount), .ref aWa_parameterCounts, .ref aWa_parameters, .ref aWa_results, .int (iI zW3.functionCount), .ref aWa_functionTypes, .ref aWa_starts, .ref aWa_localCounts, .ref aWa_locals, .int (bI zW5.hasMemory), .long zW5.pagesAtFirst, .long zW5.pagesMost, .int (iI zW6.globalCount), .ref aWa_globalTypes, .ref aWa_globalsChange, .ref aWa_initialTypes, .ref aWa_initialValues, .ref aEx, .ref aCo])), (aMa, .inr (6, [.ref aMa_bytes, .int (bI zAg.written), .int (iI zAg.pages), .ref aMa_globals, .int (iI zMa.steps), gMw, gMc, .int (iI zMa.reason), .int (iI zMa.next), .ref aMa_stack, .int (iI zAs.height), .ref aMa_functions, .ref aMa_bases, .ref aMa_returns, .int (iI zAf.depth), .int (iI zAf.variables), .int (iI zAf.values)])), (aWR, .inr (0, [.ref aTp, .int (iI zWr.tapeLength), .ref aAr, .int (iI zWr.argumentCount), .ref aRd, .ref aVa, .ref aMa, .ref aWa, .ref aW2, .int (bI zWr.loaded), .int (iI zWr.reason)])), (x_18, .inr (14, []))] := ⟨hP, hD⟩
    clear hP hD
    obtain ⟨hP, hD⟩ := hQ9
    exact ex_out rfl rfl rfl (hno _) hlocks (fun t ht hW => ⟨⟨_, ozt hf ⟨x_18, trivial, rfl, rfl⟩, by rw [ht]; exact hP, hD⟩, hS.F ht⟩) hS.2.2
  exact absurd q_17 (by omega)
set_option maxHeartbeats 8000000 in
set_option maxRecDepth 100000 in
theorem k_WR_callO (l : Launch) (htr : l.stackTraces = false) (G : va_G) (cB cI cJ cZ cG : ClassId) (aWR : Nat) (aTp : Nat) (aAr : Nat) (aRd : Nat) (aVa : Nat) (aMa : Nat) (aWa : Nat) (aW2 : Nat) (zWr : KWr) (hzWr : KWr.Ok zWr) (v_f : Int) (hv_f : R32 v_f) (R9 : Out (Nat) (Int64)) (hf : f_WR_callO zWr v_f = R9) (hnb : R9 ≠ .bad) (sz : Nat) : MetX l y_WR_call (wx y_WR_call b_WR_call 3 (some .long)) { frames := 7, cells := 1, slots := 6, locals := 110 } (XP G classes (xtys cB cI cJ cZ cG) xE [.ref aWR, .int (iI v_f)] [(aWR, .inr (0, [.ref aTp, .int (iI zWr.tapeLength), .ref aAr, .int (iI zWr.argumentCount), .ref aRd, .ref aVa, .ref aMa, .ref aWa, .ref aW2, .int (bI zWr.loaded), .int (iI zWr.reason)]))] sz) (XQ G classes (va_A [(aWR, .inr (0, [.ref aTp, .int (iI zWr.tapeLength), .ref aAr, .int (iI zWr.argumentCount), .ref aRd, .ref aVa, .ref aMa, .ref aWa, .ref aW2, .int (bI zWr.loaded), .int (iI zWr.reason)]))] sz) (fun o w1 => ozp R9 (fun x9 => (True) ∧ o = .returned (some (.long x9)) ∧ w1 = [(aWR, .inr (0, [.ref aTp, .int (iI zWr.tapeLength), .ref aAr, .int (iI zWr.argumentCount), .ref aRd, .ref aVa, .ref aMa, .ref aWa, .ref aW2, .int (bI zWr.loaded), .int (iI zWr.reason)]))]) (fun t9 => ∃ x9e : Nat, (True) ∧ o = .threw x9e ∧ w1 = [(aWR, .inr (0, [.ref aTp, .int (iI zWr.tapeLength), .ref aAr, .int (iI zWr.argumentCount), .ref aRd, .ref aVa, .ref aMa, .ref aWa, .ref aW2, .int (bI zWr.loaded), .int (iI zWr.reason)])), (x9e, .inr (t9, []))]))) 1 6 (va_A [(aWR, .inr (0, [.ref aTp, .int (iI zWr.tapeLength), .ref aAr, .int (iI zWr.argumentCount), .ref aRd, .ref aVa, .ref aMa, .ref aWa, .ref aW2, .int (bI zWr.loaded), .int (iI zWr.reason)]))] sz) := by
  refine ex_ofW (cc := b_WR_call) (maxL := 3) (ret := (some .long)) (by decide) rfl ?_
  intro p e s m args below meth c s₁ B hml hno hv
  obtain ⟨rfl, hsz, hP, hK, hD0, hE⟩ := hv
  have hx := B.exec
  have hb := B.bytes
  have hr := B.returns
  have hts : ∀ w ∈ lw_good, w.before _ s = true := fun w h => atoms_spec (ws := wx y_WR_call b_WR_call 3 (some .long)) B.pre w (List.mem_cons_of_mem _ h)
  have hown : s.vm.findClass R_WR = some m.cls := findClass_of_methodNamed B.named
  have hlocks := B.notSynchronized
  have htr9 : e.platform.stackTraces = false := by rw [B.admits.platform]; exact htr
  subst hsz
  have hNS := xx_nostat hP
  have hD := hD0.self (sz := s.heap.size)
  generalize hAe : va_A [(aWR, .inr (0, [.ref aTp, .int (iI zWr.tapeLength), .ref aAr, .int (iI zWr.argumentCount), .ref aRd, .ref aVa, .ref aMa, .ref aWa, .ref aW2, .int (bI zWr.loaded), .int (iI zWr.reason)]))] s.heap.size = A at hD hE hNS ⊢
  have hA : ∀ q : Nat, s.heap.size ≤ q → A q := fun q h => by rw [← hAe]; exact Or.inr h
  have hS : va_S A s.heap s.heap [] := va_S.rf
  have hl := lv_entry ([.ref aWR, .int (iI v_f)]) (n := 3) (Nat.le_of_ble_eq_true rfl)
  rw [lg_entry_eq]
  generalize (lg_sl ([.ref aWR, .int (iI v_f)]) ++ List.replicate (3 - (lg_sl ([.ref aWR, .int (iI v_f)])).length) Slot.unset).toArray = ls at hl ⊢
  have hl : lv_has ls 3 [(0, .ref aWR), (1, .int (iI v_f))] := hl
  unfold f_WR_callO at hf
  refine lv_aload_n hx hb d_WR_call_0 rfl (lv_at hl 0 rfl) ?_
  replace hf := ob2 hnb hf
  rcases hf with ⟨x_1, e_2, hf⟩ | ⟨x_1, e_2, hf⟩
  · refine xx_callV (wc := [(aWR, .inr (0, [.ref aTp, .int (iI zWr.tapeLength), .ref aAr, .int (iI zWr.argumentCount), .ref aRd, .ref aVa, .ref aMa, .ref aWa, .ref aW2, .int (bI zWr.loaded), .int (iI zWr.reason)]))]) (wr := []) (As := []) (rest := []) ⟨hx, hb, hml, hown, hts⟩ xE_st hK hE hA (k_WR_requireModule l htr G cB cI cJ cZ cG aWR aTp aAr aRd aVa aMa aWa aW2 zWr hzWr (.ret x_1) e_2 ret_nb _) (xw_V 0 hts m_920 m_922 ms_WR_requireModule m_1 m_923 (by decide +kernel) ⟨(Nat.le_of_ble_eq_true rfl), (Nat.le_of_ble_eq_true rfl)⟩) hP hD hS [0] [] rfl rfl (by decide +kernel) (by decide +kernel) (by decide +kernel) 0 0 rfl rfl rfl rfl hl.1 rfl (Nat.le_of_ble_eq_true rfl) d_WR_call_1 ⟨(Nat.le_of_ble_eq_true rfl), (Nat.le_of_ble_eq_true rfl)⟩ (fun v9 w9 H_1 locs_1 hp hP_1 hD_1 hS_1 => ?_) (fun x9 w9 H9 l9 hp _ _ _ => absurd hp (fun q9 => by obtain ⟨-, ho, -⟩ := q9; cases ho))
    clear hS hD hP
    obtain ⟨hx_1, ho, rfl⟩ := hp
    cases ho
    have hQ9 : (fun w9 => va_P G classes w9 H_1 ∧ va_D A w9) [(aWR, .inr (0, [.ref aTp, .int (iI zWr.tapeLength), .ref aAr, .int (iI zWr.argumentCount), .ref aRd, .ref aVa, .ref aMa, .ref aWa, .ref aW2, .int (bI zWr.loaded), .int (iI zWr.reason)]))] := ⟨hP_1, hD_1⟩
    clear hP_1 hD_1
    obtain ⟨hP_1, hD_1⟩ := hQ9
    refine W.widen (k := 1) (n := 6) (Nat.le_of_ble_eq_true rfl) (Nat.le_of_ble_eq_true rfl) ?_
    exact absurd hf.symm hnb
  · refine xx_callV (wc := [(aWR, .inr (0, [.ref aTp, .int (iI zWr.tapeLength), .ref aAr, .int (iI zWr.argumentCount), .ref aRd, .ref aVa, .ref aMa, .ref aWa, .ref aW2, .int (bI zWr.loaded), .int (iI zWr.reason)]))]) (wr := []) (As := []) (rest := []) ⟨hx, hb, hml, hown, hts⟩ xE_st hK hE hA (k_WR_requireModule l htr G cB cI cJ cZ cG aWR aTp aAr aRd aVa aMa aWa aW2 zWr hzWr (.thr x_1) e_2 thr_nb _) (xw_V 0 hts m_920 m_922 ms_WR_requireModule m_1 m_923 (by decide +kernel) ⟨(Nat.le_of_ble_eq_true rfl), (Nat.le_of_ble_eq_true rfl)⟩) hP hD hS [0] [] rfl rfl (by decide +kernel) (by decide +kernel) (by decide +kernel) 0 0 rfl rfl rfl rfl hl.1 rfl (Nat.le_of_ble_eq_true rfl) d_WR_call_1 ⟨(Nat.le_of_ble_eq_true rfl), (Nat.le_of_ble_eq_true rfl)⟩ (fun v9 w9 H9 l9 hp _ _ _ => absurd hp (fun q9 => by obtain ⟨_, -, ho, -⟩ := q9; cases ho)) (fun x9 w9 H_2 locs_2 hp hP_2 hD_2 hS_2 => ?_)
    clear hS hD hP
    obtain ⟨x_3, hx_1, ho, rfl⟩ := hp
    have e9 : x_3 = x9 := by cases ho; rfl
    subst e9
    clear ho
    have hQ9 : (fun w9 => va_P G classes w9 H_2 ∧ va_D A w9) [(aWR, .inr (0, [.ref aTp, .int (iI zWr.tapeLength), .ref aAr, .int (iI zWr.argumentCount), .ref aRd, .ref aVa, .ref aMa, .ref aWa, .ref aW2, .int (bI zWr.loaded), .int (iI zWr.reason)])), (x_3, .inr (x_1, []))] := ⟨hP_2, hD_2⟩
    clear hP_2 hD_2
    obtain ⟨hP_2, hD_2⟩ := hQ9
    exact ex_out rfl rfl rfl (hno _) hlocks (fun t ht hW => ⟨⟨_, ozt hf ⟨x_3, trivial, rfl, rfl⟩, by rw [ht]; exact hP_2, hD_2⟩, hS_2.F ht⟩) hS_2.2.2
