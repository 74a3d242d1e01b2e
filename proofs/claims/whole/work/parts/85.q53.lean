/-! RUN: a call is left -/
section LEV
variable {fu g0 g i b lt h : Nat} {f : Nat → Int32} {n sp r : Int} {C : KCo} {M : KMe} {W1 : KW1} {W3 : KW3} {Wj : KWj} {W5 : KW5} {M1 : KM1} {Mp : KMp} {M3 : KM3} {Mj : KMj} {Ml : KMl} {M5 : KM5} {M6 : KM6} {ct : KCt} {X : SP} {R : List (Nat × Nat × Nat)} {af af' : KAf} {rr rr' : KRr} {rl rl' : KRl} {st vs : Nat → Int64}
/-- the stack with a value of type t (0: none) put at b -/
abbrev stp (st : Nat → Int64) (t : Int) (b : Nat) (v : Int64) : Nat → Int64 := if t = 0 then st else vp_updL st b v
abbrev one (t : Int) : Nat := if t = 0 then 0 else 1
set_option maxRecDepth 20000 in
theorem stp_lo {t : Int} {v : Int64} {k : Nat} (hk : k < b) : stp st t b v k = st k := by
  by_cases c : t = 0
  · rw [show stp st t b v = st from if_pos c]
  · rw [show stp st t b v = vp_updL st b v from if_neg c, updL_n (by omega)]
set_option maxRecDepth 20000 in
/-- the caller goes on with what it was given -/
theorem FI.ret {a : Nat × Nat × Nat} {R' : List (Nat × Nat × Nat)} {t : Int} {v : Int64} (ht : Ty0 t) (hF : FI X M1 Mp M3 Mj Ml af rr rl st (a :: R') t lt b) (hv : t = 127 → R32 v.toInt) : FI X M1 Mp M3 Mj Ml af rr rl (stp st t b v) (a :: R') 0 lt (b + one t) := by
  obtain ⟨a1, a2, a3, a4, a5, a6, a7, a8, a9, ⟨x, R0, b1, b2, b3, b4⟩, lb, c1, c2, c3, c4, c5⟩ := hF
  obtain ⟨y1, y2⟩ := pushA_live ht (Live.cons.mp b2).1
  refine ⟨a1, a2, a3, a4, a5, a6, a7, a8, a9.cg (fun k hk => stp_lo (by omega)), ⟨pushA t x, R0, b1, Live.cons.mpr ⟨y1, (Live.cons.mp b2).2⟩, ?_, ?_⟩, lb, c1, c2, c3, c4, FI.cg c5 (fun k _ => ⟨rfl, rfl, rfl, rfl, rfl, rfl, rfl⟩) (fun k _ => ⟨rfl, rfl⟩) (fun k hk => stp_lo (by omega))⟩
  · show b + one t = _ + ((pushA t x).1 ++ flat R0).length
    have b3' : b = a.2.2 + nv M1 M3 Mj a.1 + (x.1 ++ flat R0).length := b3
    rw [y2]
    by_cases c : t = 0
    · rw [if_pos c, show one t = 0 from if_pos c]; omega
    · rw [if_neg c, show one t = 1 from if_neg c, List.cons_append, List.length_cons]; omega
  · show VT _ _ ((pushA t x).1 ++ flat R0)
    have b3' : b = a.2.2 + nv M1 M3 Mj a.1 + (x.1 ++ flat R0).length := b3
    rw [y2]
    by_cases c : t = 0
    · rw [if_pos c, show stp st t b v = st from if_pos c]; exact b4
    · rw [if_neg c, show stp st t b v = vp_updL st b v from if_neg c, List.cons_append, b3']
      exact VT.push b4 hv
set_option maxRecDepth 20000 in
theorem cm_unwind {ma : KMa} {t : Int} {to : Nat} (ht : Ty0 t) (hto : to + one t ≤ h) (hh : h ≤ 12096) : f_Ma_unwind ma (KAs.mk st h) to (rT t) = .ret (ma, KAs.mk (stp st t to (st (h - 1))) ((to + one t : Nat) : Int)) := by
  unfold f_Ma_unwind
  simp only [jp]
  by_cases c : t = 0
  · have e : rT t = 64 := by rw [c]; rfl
    rw [e, if_pos rfl, if_pos rfl, show stp st t to (st (h - 1)) = st from if_pos c, show one t = 0 from if_pos c]
    rfl
  · have e : ¬ rT t = 64 := by
      rcases ht with q | q | q
      · exact absurd q c
      · rw [q]; decide
      · rw [q]; decide
    have o1 : one t = 1 := if_neg c
    rw [if_neg e, cm_pop (by omega) hh, obind_ret]
    dsimp only
    rw [if_neg e, cm_push, if_pos (by omega), obind_ret, show stp st t to (st (h - 1)) = vp_updL st to (st (h - 1)) from if_neg c, o1]
set_option maxRecDepth 20000 in
/-- both leave the innermost call -/
theorem lv_both (hX : CX f n C M W1 W3 Wj W5 M1 Mp M3 Mj Ml M5 M6 ct X) (hS : StI X M1 Mp M3 Mj Ml g0 g i b R lt h af rr rl st vs) (hr : rl'.labelAt = rl.labelAt ∧ rl'.labelHeight = rl.labelHeight) {h' : Nat} (hh' : h' ≤ h) (hb : b + one (res M1 M3 g) ≤ h') (hv : res M1 M3 g = 127 → R32 (st (h' - 1)).toInt) {nx c : Int} : ∃ (ma' : KMa) (as' : KAs) (af' : KAf) (mc' : KMc) (rs' : KRs) (rr' : KRr) (rl'' : KRl) (lb : Nat), f_Ma_leave W1 W3 Wj (KMa.mk sp 0 nx) (KAs.mk st h') af = .ret (ma', as', af') ∧ f_Mo_leave r (KMc.mk c n) (KRs.mk vs h') rr rl' M1 M3 = .ret (r, mc', rs', rr', rl'', decide (R ≠ [])) ∧ ma'.steps = sp ∧ lb < lt ∧ ((R ≠ [] ∧ RI X M1 Mp M3 Mj Ml n g0 ma' as' af' mc' rs' rr' rl'' lb) ∨ (R = [] ∧ ma'.reason = 0 ∧ af'.depth = 0 ∧ (res M1 M3 g0 ≠ 0 → as'.stack 0 = rs'.values 0))) := by
  obtain ⟨hF, s2, s3, s4, s5, s6, s7, s8, s9, s10⟩ := hS
  obtain ⟨a1, a2, a3, a4, a5, a6, a7, a8, a9, ⟨x, R0, b1, b2, b3, b4⟩, lb, c1, c2, c3, c4, c5⟩ := hF
  dsimp only at *
  have hM := hX.1
  have hrs := hM.rs a1
  obtain ⟨T1, t1, t2, t3, t4, t5, t6⟩ := hM.ty a1
  have ed : af.depth - 1 = (R.length : Int) := by omega
  have er : rr.frames - 1 = (R.length : Int) := by omega
  have hag : ∀ k, k < b + one (res M1 M3 g) → stp vs (res M1 M3 g) b (st (h' - 1)) k = stp st (res M1 M3 g) b (st (h' - 1)) k := by
    intro k hk
    by_cases q : res M1 M3 g = 0
    · rw [show stp vs (res M1 M3 g) b (st (h' - 1)) = vs from if_pos q, show stp st (res M1 M3 g) b (st (h' - 1)) = st from if_pos q]
      exact s9 k (by omega)
    · rw [show stp vs (res M1 M3 g) b (st (h' - 1)) = vp_updL vs b (st (h' - 1)) from if_neg q, show stp st (res M1 M3 g) b (st (h' - 1)) = vp_updL st b (st (h' - 1)) from if_neg q]
      exact ag_set s9 (by omega) hk
  -- the reference
  have eR : f_Mo_leave r (KMc.mk c n) (KRs.mk vs h') rr rl' M1 M3 = .ret (r, KMc.mk (rr.frameReturn R.length) n, KRs.mk (stp vs (res M1 M3 g) b (st (h' - 1))) ((b + one (res M1 M3 g) : Nat) : Int), KRr.mk rr.frameFunction rr.frameReturn rr.frameBase rr.frameLabels R.length, KRl.mk rl'.labelAt rl'.labelHeight lb, decide (R ≠ [])) := by
    unfold f_Mo_leave
    simp only [jp_ite]
    simp only [jp]
    rw [er, if_pos (by omega), if_pos (by omega), Int.toNat_natCast, a5, mo_ty hM a1, obind_ret, if_pos (by omega), Int.toNat_natCast, a7, c1]
    simp only [if_pos (show (0 : Int) ≤ (R.length : Int) ∧ (R.length : Int) < 100 by omega), if_pos (show (0 : Int) ≤ (R.length : Int) ∧ (R.length : Int) < 101 by omega)]
    have eg : (if (R.length : Int) ≤ 0 then false else true) = decide (R ≠ []) := by
      cases R with
      | nil => rfl
      | cons a R' => rw [if_neg (by rw [List.length_cons]; omega)]; rfl
    rw [eg]
    by_cases q : res M1 M3 g = 0
    · rw [show (if M1.results (tyOf M3 g) = 0 then false else true) = false from if_pos q]
      simp only [reduceIte, Bool.false_eq_true]
      rw [show stp vs (res M1 M3 g) b (st (h' - 1)) = vs from if_pos q, show one (res M1 M3 g) = 0 from if_pos q]
      rfl
    · have o1 : one (res M1 M3 g) = 1 := if_neg q
      rw [show (if M1.results (tyOf M3 g) = 0 then false else true) = true from if_neg q]
      simp only [reduceIte]
      rw [rm_pop (by omega) (by omega), obind_ret]
      dsimp only
      rw [rm_push (by omega), if_pos (by omega), obind2_ret, show stp vs (res M1 M3 g) b (st (h' - 1)) = vp_updL vs b (st (h' - 1)) from if_neg q, o1, s9 (h' - 1) (by omega)]
  cases R with
  | nil =>
    have hb0 : b = 0 := c5.2
    have eC : f_Ma_leave W1 W3 Wj (KMa.mk sp 0 nx) (KAs.mk st h') af = .ret (KMa.mk sp 0 (af.returns 0), KAs.mk (stp st (res M1 M3 g) b (st (h' - 1))) ((b + one (res M1 M3 g) : Nat) : Int), KAf.mk af.functions af.bases af.returns 0 af.variables af.values) := by
      unfold f_Ma_leave
      simp only [jp]
      rw [ed, if_pos (by decide), if_pos (by decide), show (([] : List (Nat × Nat × Nat)).length : Int).toNat = ([] : List (Nat × Nat × Nat)).length from rfl, a4, wa_rs hM a1, obind_ret, s3, cm_unwind hrs hb (by omega), obind_ret]
      rfl
    refine ⟨_, _, _, _, _, _, _, lb, eC, eR, rfl, by omega, Or.inr ⟨rfl, rfl, rfl, fun q => ?_⟩⟩
    have hgg : g = g0 := Option.some.inj s10
    rw [← hgg] at q
    show stp st (res M1 M3 g) b (st (h' - 1)) 0 = stp vs (res M1 M3 g) b (st (h' - 1)) 0
    exact (hag 0 (by rw [show one (res M1 M3 g) = 1 from if_neg q]; omega)).symm
  | cons a R' =>
    obtain ⟨g', i', b'⟩ := a
    obtain ⟨q1, q2⟩ := a8 _ _ rfl
    have hF2 := FI.ret (v := st (h' - 1)) hrs c5 hv
    have g1 : (g' : Int) < M3.functions := c5.1
    obtain ⟨T2, u1, u2, u3, u4, u5, u6⟩ := hM.ty g1
    have hpc := hM.pc g1
    have hLo := (hX.2.2.2.2.2.2.1 g' g1).2.2.2.2.2.2.2.2.2.2.2.2.2.1
    have k1 : af.functions R'.length = g' := c5.2.2.2.1
    have k2 : af.bases R'.length = b' := c5.2.2.2.2.2.1
    have hbb : b' + nv M1 M3 Mj g' ≤ b := by
      obtain ⟨_, _, _, _, _, _, _, _, _, ⟨x', R0', _, _, b3', _⟩, _⟩ := c5
      dsimp only at b3'; omega
    have hl1 : ((((g', i', b') :: R').length : Nat) : Int) - 1 = (R'.length : Int) := by rw [List.length_cons]; omega
    have eC : f_Ma_leave W1 W3 Wj (KMa.mk sp 0 nx) (KAs.mk st h') af = .ret (KMa.mk sp 0 i', KAs.mk (stp st (res M1 M3 g) b (st (h' - 1))) ((b + one (res M1 M3 g) : Nat) : Int), KAf.mk af.functions af.bases af.returns ((R'.length + 1 : Nat) : Int) b' ((b' + nv M1 M3 Mj g' : Nat) : Int)) := by
      unfold f_Ma_leave
      simp only [jp]
      rw [ed, if_pos (by omega), if_pos (by omega), Int.toNat_natCast, a4, wa_rs hM a1, obind_ret, s3, cm_unwind hrs hb (by omega), obind_ret, if_neg (show ¬ ((((g', i', b') :: R').length : Nat) : Int) ≤ 0 by rw [List.length_cons]; omega), hl1, if_pos (by omega), if_pos (by rw [List.length_cons] at s7; omega), Int.toNat_natCast, k1, wa_pc hM g1, obind_ret, k2, Int.toNat_natCast, hLo.1, q1]
      have e9 : (b' : Int) + pcn M1 M3 g' + Mj.localCount g' = ((b' + nv M1 M3 Mj g' : Nat) : Int) := by
        show _ = ((b' + (pcn M1 M3 g' + Mj.localCount g').toNat : Nat) : Int)
        have := hLo.2.1; omega
      rw [e9]
      simp only [if_pos (show R32 ((b' : Int) + pcn M1 M3 g') by omega), if_pos (show (0 : Int) ≤ (g' : Int) ∧ (g' : Int) < 30 by omega), if_pos (show R32 ((b' + nv M1 M3 Mj g' : Nat) : Int) by omega), if_pos (show (0 : Int) ≤ (R'.length : Int) ∧ (R'.length : Int) < 100 by rw [List.length_cons] at s7; omega), if_pos (show R32 (R'.length : Int) by rw [List.length_cons] at s7; omega)]
      rfl
    refine ⟨_, _, _, _, _, _, _, lb, eC, eR, rfl, by omega, Or.inl ⟨List.cons_ne_nil _ _, g', i', b', R', b + one (res M1 M3 g), ⟨?_, rfl, rfl, rfl, rfl, rfl, by rw [List.length_cons] at s7; omega, by omega, hag, ?_⟩, rfl, rfl, rfl, ?_, rfl⟩⟩
    · exact FI.cg hF2 (fun k _ => ⟨rfl, rfl, rfl, rfl, rfl, rfl, rfl⟩) (fun k _ => ⟨congrFun hr.1 k, congrFun hr.2 k⟩) (fun k _ => rfl)
    · cases R' with
      | nil => exact s10
      | cons a2 R2 => exact s10
    · show KMc.mk (rr.frameReturn ((g', i', b') :: R').length) n = KMc.mk (X.p g' i') n
      rw [q2]
end LEV
