/-! RUN: drop, select, variables -/
section VAR
variable {fu g0 g i b lt h : Nat} {f : Nat → Int32} {n sp r : Int} {C : KCo} {M : KMe} {W1 : KW1} {W3 : KW3} {Wj : KWj} {W5 : KW5} {M1 : KM1} {Mp : KMp} {M3 : KM3} {Mj : KMj} {Ml : KMl} {M5 : KM5} {M6 : KM6} {ct : KCt} {X : SP} {R : List (Nat × Nat × Nat)} {af : KAf} {rr : KRr} {rl : KRl} {st vs : Nat → Int64} {mb : KMb} {ag : KAg} {my : KMy} {rg : KRg}
set_option maxRecDepth 20000 in
theorem locA_t2 (hM : MOk W1 W3 M1 Mp M3) (hg : (g : Int) < M3.functions) (hLo : LOk Wj Mj Ml g) {u : Nat} {t : Int} (h : locA M1 Mp M3 Mj Ml g u = some t) : t = 127 ∨ t = 126 := by
  unfold locA at h
  obtain ⟨h1, h2⟩ := ite_some h
  have h3 := Option.some.inj h2
  by_cases c : (u : Int) < pcn M1 M3 g
  · rw [if_pos c, Int.toNat_natCast] at h3
    rw [← h3]; exact (hM.pt hg c).2
  · rw [if_neg c] at h3
    rw [← h3]; exact (hLo.2.2.2 _ (by omega)).2
set_option maxRecDepth 20000 in
theorem s_26 (hX : CX f n C M W1 W3 Wj W5 M1 Mp M3 Mj Ml M5 M6 ct X) (hS : StI X M1 Mp M3 Mj Ml g0 g i b R lt h af rr rl st vs) (hm : MR M6 mb ag my rg) (hi : i < X.e g) (h0 : 0 ≤ sp) (h1 : sp + 1 ≤ 100000) (ho : C.ops i = 26) : SR X M1 Mp M3 Mj Ml M6 n g0 (sp + 1) lt r (f_Ma_takeStep fu C ct W1 W3 Wj W5 mb ag (KMa.mk sp 0 ((i + 1 : Nat) : Int)) (KAs.mk st h) af (C.ops i) i) (f_Mo_step fu r (KMc.mk (X.p g i + 1) n) my rg (KRs.mk vs h) rr rl (KMt.mk f n) M1 M3 Mj M5 M (C.ops i) (X.p g i)) := by
  obtain ⟨x, y, R0, e1, e2, e3, e4, e5, e6, e7⟩ := hS.op hX hi (by omega)
  obtain ⟨d1, d2, d3, d4, d5, d6, d7⟩ := hS.dec hX hi
  have hp : X.p g (i + 1) = X.p g i + 1 := d7.2.2.2.2.2.2.2 (by omega)
  have hh := hS.2.2.2.2.2.2.2.1
  have ha := hS.2.2.2.2.2.2.2.2.1
  rw [ho] at e3; unfold opF at e3
  simp only [Int.reduceEq, reduceIte] at e3
  obtain ⟨z, q1, q2⟩ := omap_some e3
  obtain ⟨k1, k2, k3, k4, k5⟩ := popA_live q1 e4
  subst q2
  have hpos : 0 < h := by rw [e7, tot_cons, k1, List.length_cons]; omega
  refine sr_go (h' := h - [z.1].length) hS (hS.1.pop (l := [z.1]) e1 (by omega) (by omega) e5 e2 k4 k1) (by omega) (fun k hk => ha k (by omega)) hm ?_ ?_
  · rw [ho, tk_var h0 h1 (by decide) (by decide) d1]
    unfold f_Ma_performVariable
    simp only [jp, Int.reduceEq, reduceIte]
    rw [cm_pop hpos hh, obind_ret, obind_ret]
    rfl
  · rw [ho, hp]
    unfold f_Mo_step
    simp only [jp, Int.reduceEq, reduceIte]
    have e : (KRs.mk vs (h : Int)).valueTop - 1 = ((h - 1 : Nat) : Int) := by show (h : Int) - 1 = _; omega
    rw [e, if_pos (by omega)]
    rfl
set_option maxRecDepth 20000 in
theorem s_27 (hX : CX f n C M W1 W3 Wj W5 M1 Mp M3 Mj Ml M5 M6 ct X) (hS : StI X M1 Mp M3 Mj Ml g0 g i b R lt h af rr rl st vs) (hm : MR M6 mb ag my rg) (hi : i < X.e g) (h0 : 0 ≤ sp) (h1 : sp + 1 ≤ 100000) (ho : C.ops i = 27) : SR X M1 Mp M3 Mj Ml M6 n g0 (sp + 1) lt r (f_Ma_takeStep fu C ct W1 W3 Wj W5 mb ag (KMa.mk sp 0 ((i + 1 : Nat) : Int)) (KAs.mk st h) af (C.ops i) i) (f_Mo_step fu r (KMc.mk (X.p g i + 1) n) my rg (KRs.mk vs h) rr rl (KMt.mk f n) M1 M3 Mj M5 M (C.ops i) (X.p g i)) := by
  obtain ⟨x, y, R0, e1, e2, e3, e4, e5, e6, e7⟩ := hS.op hX hi (by omega)
  obtain ⟨d1, d2, d3, d4, d5, d6, d7⟩ := hS.dec hX hi
  obtain ⟨x', R', v1, v2, v3, v4⟩ := hS.1.vals
  have hp : X.p g (i + 1) = X.p g i + 1 := d7.2.2.2.2.2.2.2 (by omega)
  have hh := hS.2.2.2.2.2.2.2.1
  have ha := hS.2.2.2.2.2.2.2.2.1
  rw [ho] at e3; unfold opF selA at e3
  simp only [Int.reduceEq, reduceIte] at e3
  obtain ⟨p1, a1, e3⟩ := obnd_some e3
  obtain ⟨p2, a2, e3⟩ := obnd_some e3
  obtain ⟨p3, a3, e3⟩ := obnd_some e3
  obtain ⟨a4, e3⟩ := ite_some e3
  obtain ⟨k1, k2, k3, k4, k5⟩ := popA_live a1 e4
  obtain ⟨l1, l2, l3, l4, l5⟩ := popA_live a2 k4
  obtain ⟨m1, m2, m3, m4, m5⟩ := popA_live a3 l4
  have hpq : p2.1 = p3.1 := by omega
  rw [if_neg (show ¬ p2.1 = -1 by omega)] at e3
  have hy := Option.some.inj e3
  have hx : x.1 = [p1.1, p2.1, p3.1] ++ p3.2.1 := by rw [k1, l1, m1]; rfl
  have hfl : flat (x :: R0) = p1.1 :: p2.1 :: p3.1 :: (p3.2.1 ++ flat R0) := by show x.1 ++ flat R0 = _; rw [hx]; rfl
  have hlen : h = b + nv M1 M3 Mj g + ((p3.2.1 ++ flat R0).length + 3) := by rw [e7]; show _ + (flat (x :: R0)).length = _; rw [hfl]; rfl
  rw [e1, hfl] at v4
  have hy1 : lv y := by
    rw [← hy]
    refine ⟨m4.1, fun t ht => ?_⟩
    rcases List.mem_cons.mp ht with q | q
    · rw [q]; exact l3
    · exact m4.2 t q
  have t2 : p2.1 = 127 → R32 (st (h - 2)).toInt := fun q => by
    have := v4.2.1 q
    rwa [show b + nv M1 M3 Mj g + (p3.1 :: (p3.2.1 ++ flat R0)).length = h - 2 by rw [List.length_cons]; omega] at this
  have t3 : p2.1 = 127 → R32 (st (h - 3)).toInt := fun q => by
    have := v4.2.2.1 (by omega)
    rwa [show b + nv M1 M3 Mj g + (p3.2.1 ++ flat R0).length = h - 3 by omega] at this
  have hF : ∀ v : Int64, (p2.1 = 127 → R32 v.toInt) → FI X M1 Mp M3 Mj Ml af rr rl (vp_updL st (h - 3) v) ((g, i + 1, b) :: R) 0 lt (h - 3 + 1) := fun v hv => hS.1.pp (i' := i + 1) (l := [p1.1, p2.1, p3.1]) (v := v) e1 (by omega) (by omega) e5 e2 hy1 hx (show y.1 = p2.1 :: p3.2.1 by rw [← hy]) hv
  have ec : ∀ v, (if st (h - 1) = (0 : Int64) then st (h - 2) else st (h - 3)) = v → f_Ma_takeStep fu C ct W1 W3 Wj W5 mb ag (KMa.mk sp 0 ((i + 1 : Nat) : Int)) (KAs.mk st h) af (C.ops i) i = .ret (mb, ag, KMa.mk (sp + 1) 0 ((i + 1 : Nat) : Int), KAs.mk (vp_updL st (h - 3) v) ((h - 3 + 1 : Nat) : Int), af) := by
    intro v hv
    rw [ho, tk_var h0 h1 (by decide) (by decide) d1]
    unfold f_Ma_performVariable f_Ma_select
    simp only [jp_ite]
    simp only [jp, Int.reduceEq, reduceIte]
    rw [cm_pop (by omega) hh, obind_ret]
    dsimp only
    rw [cm_pop (by omega) (by omega), obind_ret]
    dsimp only
    rw [cm_pop (by omega) (by omega), obind_ret]
    dsimp only
    rw [show h - 1 - 1 = h - 2 by omega, show h - 2 - 1 = h - 3 by omega, hv, cm_push, if_pos (by omega)]
    rfl
  have er : f_Mo_step fu r (KMc.mk (X.p g i + 1) n) my rg (KRs.mk vs h) rr rl (KMt.mk f n) M1 M3 Mj M5 M (C.ops i) (X.p g i) = .ret (r, KMc.mk (X.p g (i + 1)) n, my, rg, KRs.mk (if st (h - 1) = (0 : Int64) then vp_updL vs (h - 3) (vs (h - 2)) else vs) ((h - 3 + 1 : Nat) : Int), rr, rl, true) := by
    rw [ho, hp]
    unfold f_Mo_step
    simp only [jp, Int.reduceEq, reduceIte]
    rw [rm_pop (by omega) hh, obind_ret]
    dsimp only
    rw [ha (h - 1) (by omega), rm_pop (by omega) (by omega)]
    simp only [obind_ret, reduceIte, Bool.false_eq_true]
    rw [show h - 1 - 1 = h - 2 by omega]
    have e : ((h - 2 : Nat) : Int) - 1 = ((h - 3 : Nat) : Int) := by omega
    rw [e, if_pos (show R32 ((h - 3 : Nat) : Int) by omega), if_pos (show (0 : Int) ≤ ((h - 3 : Nat) : Int) ∧ ((h - 3 : Nat) : Int) < 12097 by omega), Int.toNat_natCast, show h - 3 + 1 = h - 2 by omega]
    by_cases c : st (h - 1) = (0 : Int64)
    · rw [if_pos c, if_pos c]
    · rw [if_neg c, if_neg c]
  by_cases c : st (h - 1) = (0 : Int64)
  · have ec' := ec _ (if_pos c)
    rw [if_pos c] at er
    refine sr_go (h' := h - 3 + 1) hS (hF _ t2) (by omega) (fun k hk => ?_) hm ec' er
    by_cases ck : k = h - 3
    · rw [ck, updL_s, updL_s]; exact ha _ (by omega)
    · rw [updL_n ck, updL_n ck]; exact ha k (by omega)
  · have ec' := ec _ (if_neg c)
    rw [if_neg c] at er
    refine sr_go (h' := h - 3 + 1) hS (hF _ t3) (by omega) (fun k hk => ?_) hm ec' er
    by_cases ck : k = h - 3
    · rw [ck, updL_s]; exact ha _ (by omega)
    · rw [updL_n ck]; exact ha k (by omega)
set_option maxRecDepth 20000 in
theorem StI.fb (hS : StI X M1 Mp M3 Mj Ml g0 g i b R lt h af rr rl st vs) : rr.frames - 1 = (R.length : Int) ∧ R.length < 100 ∧ rr.frameBase R.length = b := by
  have := hS.2.2.2.2.1
  exact ⟨by omega, hS.2.2.2.2.2.2.1, hS.1.2.2.2.2.2.2.1⟩
set_option maxRecDepth 20000 in
theorem s_32 (hfu : 10 < fu) (hX : CX f n C M W1 W3 Wj W5 M1 Mp M3 Mj Ml M5 M6 ct X) (hS : StI X M1 Mp M3 Mj Ml g0 g i b R lt h af rr rl st vs) (hm : MR M6 mb ag my rg) (hi : i < X.e g) (h0 : 0 ≤ sp) (h1 : sp + 1 ≤ 100000) (ho : C.ops i = 32) : SR X M1 Mp M3 Mj Ml M6 n g0 (sp + 1) lt r (f_Ma_takeStep fu C ct W1 W3 Wj W5 mb ag (KMa.mk sp 0 ((i + 1 : Nat) : Int)) (KAs.mk st h) af (C.ops i) i) (f_Mo_step fu r (KMc.mk (X.p g i + 1) n) my rg (KRs.mk vs h) rr rl (KMt.mk f n) M1 M3 Mj M5 M (C.ops i) (X.p g i)) := by
  obtain ⟨x, y, R0, e1, e2, e3, e4, e5, e6, e7⟩ := hS.op hX hi (by omega)
  obtain ⟨d1, d2, d3, d4, d5, d6, d7⟩ := hS.dec hX hi
  obtain ⟨⟨j1, j2, j3⟩, j4, j5⟩ := d7.2.1 (by omega)
  obtain ⟨u, hu⟩ := Int.eq_ofNat_of_zero_le j4
  have hn := hX.2.2.2.2.1
  have hh := hS.2.2.2.2.2.2.2.1
  have ha := hS.2.2.2.2.2.2.2.2.1
  obtain ⟨w1, w2, w3⟩ := hS.fb
  rw [ho] at e3; unfold opF at e3
  simp only [Int.reduceEq, reduceIte] at e3
  obtain ⟨t, q1, q2⟩ := omap_some e3
  rw [hu] at q1
  have hul := locA_lt q1
  have hty := locA_t2 hX.1 hS.1.1 (hS.gf hX).2.2.2.2.2.2.2.2.2.2.2.2.2.1 q1
  obtain ⟨y1, y2⟩ := pushA_live (t := t) (x := x) (by omega) e4
  rw [q2] at y1 y2
  rw [if_neg (show ¬ t = 0 by omega)] at y2
  refine sr_push (h' := h) (l := []) (l' := x.1) (t := t) (v := st (b + u)) (v' := vs (b + u)) hS e1 hi e5 e2 y1 rfl y2 rfl (fun q => hS.1.2.2.2.2.2.2.2.2.1 u (q ▸ q1)) (ha _ (by omega)) rfl hm ?_ ?_
  · rw [ho, tk_var h0 h1 (by decide) (by decide) d1, v32 j4 j5, hu]
    unfold f_Ma_performVariable
    simp only [jp, Int.reduceEq, reduceIte]
    rw [hS.2.2.1, if_pos (show R32 ((b : Int) + u) by omega), if_pos (by omega), show ((b : Int) + u).toNat = b + u by omega]
    show obind (obind (f_Ma_push _ (KAs.mk st h) (st (b + u))) _) _ = _
    rw [cm_push]
    by_cases c : h < 12096
    · simp only [if_pos c, obind_ret]
    · simp only [if_neg c, obind_ret]
  · rw [ho]
    unfold f_Mo_step
    simp only [jp, Int.reduceEq, reduceIte]
    rw [w1, if_pos (show R32 (R.length : Int) by omega), if_pos (by omega), j3 fu r n n (by omega) d4 hn, obind2_ret, hu]
    dsimp only
    rw [Int.toNat_natCast, w3, if_pos (show R32 ((b : Int) + u) by omega), if_pos (by omega), show ((b : Int) + u).toNat = b + u by omega] <;> rfl
end VAR

/-! RUN: variables are set -/
section VAS
variable {fu g0 g i b lt h : Nat} {f : Nat → Int32} {n sp r : Int} {C : KCo} {M : KMe} {W1 : KW1} {W3 : KW3} {Wj : KWj} {W5 : KW5} {M1 : KM1} {Mp : KMp} {M3 : KM3} {Mj : KMj} {Ml : KMl} {M5 : KM5} {M6 : KM6} {ct : KCt} {X : SP} {R : List (Nat × Nat × Nat)} {af : KAf} {rr : KRr} {rl : KRl} {st vs : Nat → Int64} {mb : KMb} {ag : KAg} {my : KMy} {rg : KRg}
set_option maxRecDepth 20000 in
/-- a variable of the innermost call gets the topmost value, that stays or goes -/
theorem FI.setl {u : Nat} {t : Int} {x y : Fr} {R0 : SS} (hF : FI X M1 Mp M3 Mj Ml af rr rl st ((g, i, b) :: R) 0 lt h) (hi : i < X.e g) (e1 : X.F g i = x :: R0) (e2 : X.F g (i + 1) = y :: R0) (hk : X.k g (i + 1) = X.k g i) (hq : locA M1 Mp M3 Mj Ml g u = some t) {r1 : List Int} (hx : x.1 = t :: r1) (hy : lv y) (hyx : y.1 = r1 ∨ y.1 = t :: r1) : FI X M1 Mp M3 Mj Ml af rr rl (vp_updL st (b + u) (st (h - 1))) ((g, i + 1, b) :: R) 0 lt (b + nv M1 M3 Mj g + tot (y :: R0)) ∧ h = b + nv M1 M3 Mj g + ((r1 ++ flat R0).length + 1) := by
  have hs : X.s g ≤ i := hF.2.1
  obtain ⟨x', R', q1, q2, q3, q4⟩ := hF.vals
  rw [e1] at q2 q3 q4
  have hul := locA_lt hq
  have hfl : flat (x :: R0) = t :: (r1 ++ flat R0) := by show x.1 ++ flat R0 = _; rw [hx, List.cons_append]
  have hh : h = b + nv M1 M3 Mj g + ((r1 ++ flat R0).length + 1) := by rw [q3]; show _ + (flat (x :: R0)).length = _; rw [hfl, List.length_cons]
  rw [hfl] at q4
  have hst : ∀ k, b + nv M1 M3 Mj g ≤ k → vp_updL st (b + u) (st (h - 1)) k = st k := fun k hk => updL_n (by omega)
  have q5 : VT (vp_updL st (b + u) (st (h - 1))) (b + nv M1 M3 Mj g) (t :: (r1 ++ flat R0)) := VT.cg _ (fun k _ hk => hst k hk) q4
  refine ⟨?_, hh⟩
  rw [← e2]
  refine FI.top e2 hF (by omega) (by omega) hk (by rw [e2]; exact Live.cons.mpr ⟨hy, (Live.cons.mp q2).2⟩) (fun k hk => updL_n (by omega)) (fun k hk => ?_) ?_
  · by_cases c : k = u
    · subst c
      rw [updL_s]
      have h9 : t = 127 := Option.some.inj (hq.symm.trans hk)
      have := q4.1 h9
      rwa [show b + nv M1 M3 Mj g + (r1 ++ flat R0).length = h - 1 by omega] at this
    · rw [updL_n (by omega)]; exact hF.2.2.2.2.2.2.2.2.1 k hk
  · rw [e2]
    show VT _ _ (y.1 ++ flat R0)
    rcases hyx with c | c
    · rw [c]; exact q5.2
    · rw [c]; exact q5
set_option maxRecDepth 20000 in
theorem ag_set {u k h' : Nat} {v : Int64} (ha : ∀ k, k < h → vs k = st k) (hh : h' ≤ h) (hk : k < h') : vp_updL vs u v k = vp_updL st u v k := by
  by_cases c : k = u
  · rw [c, updL_s, updL_s]
  · rw [updL_n c, updL_n c]; exact ha k (by omega)
set_option maxRecDepth 20000 in
theorem s_33 (hfu : 10 < fu) (hX : CX f n C M W1 W3 Wj W5 M1 Mp M3 Mj Ml M5 M6 ct X) (hS : StI X M1 Mp M3 Mj Ml g0 g i b R lt h af rr rl st vs) (hm : MR M6 mb ag my rg) (hi : i < X.e g) (h0 : 0 ≤ sp) (h1 : sp + 1 ≤ 100000) (ho : C.ops i = 33) : SR X M1 Mp M3 Mj Ml M6 n g0 (sp + 1) lt r (f_Ma_takeStep fu C ct W1 W3 Wj W5 mb ag (KMa.mk sp 0 ((i + 1 : Nat) : Int)) (KAs.mk st h) af (C.ops i) i) (f_Mo_step fu r (KMc.mk (X.p g i + 1) n) my rg (KRs.mk vs h) rr rl (KMt.mk f n) M1 M3 Mj M5 M (C.ops i) (X.p g i)) := by
  obtain ⟨x, y, R0, e1, e2, e3, e4, e5, e6, e7⟩ := hS.op hX hi (by omega)
  obtain ⟨d1, d2, d3, d4, d5, d6, d7⟩ := hS.dec hX hi
  obtain ⟨⟨j1, j2, j3⟩, j4, j5⟩ := d7.2.1 (by omega)
  obtain ⟨u, hu⟩ := Int.eq_ofNat_of_zero_le j4
  have hn := hX.2.2.2.2.1
  have hh := hS.2.2.2.2.2.2.2.1
  have ha := hS.2.2.2.2.2.2.2.2.1
  obtain ⟨w1, w2, w3⟩ := hS.fb
  rw [ho] at e3; unfold opF at e3
  simp only [Int.reduceEq, reduceIte] at e3
  obtain ⟨t, q1, e3⟩ := obnd_some e3
  rw [hu] at q1
  obtain ⟨z, q2, q3⟩ := omap_some e3
  have hul := locA_lt q1
  have hty := locA_t2 hX.1 hS.1.1 (hS.gf hX).2.2.2.2.2.2.2.2.2.2.2.2.2.1 q1
  obtain ⟨k1, k2, k3, k4, k5⟩ := popA_live q2 e4
  rw [k2 (by omega)] at k1
  subst q3
  obtain ⟨f1, f2⟩ := hS.1.setl hi e1 e2 e5 q1 k1 k4 (Or.inl rfl)
  have hlen : b + nv M1 M3 Mj g + tot (z.2 :: R0) = h - 1 := by rw [f2]; show _ + (z.2.1 ++ flat R0).length = _; omega
  rw [hlen] at f1
  refine sr_go (vs' := vp_updL vs (b + u) (st (h - 1))) hS f1 (by omega) (fun k hk => ag_set ha (Nat.sub_le _ 1) hk) hm ?_ ?_
  · rw [ho, tk_var h0 h1 (by decide) (by decide) d1, v32 j4 j5, hu]
    unfold f_Ma_performVariable
    simp only [jp, Int.reduceEq, reduceIte]
    rw [hS.2.2.1, if_pos (show R32 ((b : Int) + u) by omega), cm_pop (by omega) hh, obind_ret, if_pos (by omega), show ((b : Int) + u).toNat = b + u by omega]
    rfl
  · rw [ho]
    unfold f_Mo_step
    simp only [jp, Int.reduceEq, reduceIte]
    rw [w1, if_pos (show R32 (R.length : Int) by omega), if_pos (by omega), j3 fu r n n (by omega) d4 hn, obind2_ret, hu]
    dsimp only
    rw [Int.toNat_natCast, w3, if_pos (show R32 ((b : Int) + u) by omega), rm_pop (by omega) hh, obind_ret, if_pos (by omega), show ((b : Int) + u).toNat = b + u by omega, ha (h - 1) (by omega)]
set_option maxRecDepth 20000 in
theorem s_34 (hfu : 10 < fu) (hX : CX f n C M W1 W3 Wj W5 M1 Mp M3 Mj Ml M5 M6 ct X) (hS : StI X M1 Mp M3 Mj Ml g0 g i b R lt h af rr rl st vs) (hm : MR M6 mb ag my rg) (hi : i < X.e g) (h0 : 0 ≤ sp) (h1 : sp + 1 ≤ 100000) (ho : C.ops i = 34) : SR X M1 Mp M3 Mj Ml M6 n g0 (sp + 1) lt r (f_Ma_takeStep fu C ct W1 W3 Wj W5 mb ag (KMa.mk sp 0 ((i + 1 : Nat) : Int)) (KAs.mk st h) af (C.ops i) i) (f_Mo_step fu r (KMc.mk (X.p g i + 1) n) my rg (KRs.mk vs h) rr rl (KMt.mk f n) M1 M3 Mj M5 M (C.ops i) (X.p g i)) := by
  obtain ⟨x, y, R0, e1, e2, e3, e4, e5, e6, e7⟩ := hS.op hX hi (by omega)
  obtain ⟨d1, d2, d3, d4, d5, d6, d7⟩ := hS.dec hX hi
  obtain ⟨⟨j1, j2, j3⟩, j4, j5⟩ := d7.2.1 (by omega)
  obtain ⟨u, hu⟩ := Int.eq_ofNat_of_zero_le j4
  have hn := hX.2.2.2.2.1
  have hh := hS.2.2.2.2.2.2.2.1
  have ha := hS.2.2.2.2.2.2.2.2.1
  obtain ⟨w1, w2, w3⟩ := hS.fb
  rw [ho] at e3; unfold opF at e3
  simp only [Int.reduceEq, reduceIte] at e3
  obtain ⟨t, q1, e3⟩ := obnd_some e3
  rw [hu] at q1
  obtain ⟨z, q2, q3⟩ := omap_some e3
  have hul := locA_lt q1
  have hty := locA_t2 hX.1 hS.1.1 (hS.gf hX).2.2.2.2.2.2.2.2.2.2.2.2.2.1 q1
  obtain ⟨k1, k2, k3, k4, k5⟩ := popA_live q2 e4
  rw [k2 (by omega)] at k1
  obtain ⟨y1, y2⟩ := pushA_live (t := t) (x := z.2) (by omega) k4
  rw [q3] at y1 y2
  rw [if_neg (show ¬ t = 0 by omega)] at y2
  obtain ⟨f1, f2⟩ := hS.1.setl hi e1 e2 e5 q1 k1 y1 (Or.inr y2)
  have hlen : b + nv M1 M3 Mj g + tot (y :: R0) = h := by rw [f2]; show _ + (y.1 ++ flat R0).length = _; rw [y2, List.cons_append, List.length_cons]
  rw [hlen] at f1
  refine sr_go (vs' := vp_updL vs (b + u) (st (h - 1))) hS f1 hh (fun k hk => ag_set ha (Nat.le_refl _) hk) hm ?_ ?_
  · rw [ho, tk_var h0 h1 (by decide) (by decide) d1, v32 j4 j5, hu]
    unfold f_Ma_performVariable
    simp only [jp, Int.reduceEq, reduceIte]
    have e : (KAs.mk st (h : Int)).height - 1 = ((h - 1 : Nat) : Int) := by show (h : Int) - 1 = _; omega
    rw [hS.2.2.1, if_pos (show R32 ((b : Int) + u) by omega), e, if_pos (by omega), if_pos (by omega), if_pos (by omega), show ((b : Int) + u).toNat = b + u by omega, Int.toNat_natCast]
    rfl
  · rw [ho]
    unfold f_Mo_step
    simp only [jp, Int.reduceEq, reduceIte]
    have e : (KRs.mk vs (h : Int)).valueTop - 1 = ((h - 1 : Nat) : Int) := by show (h : Int) - 1 = _; omega
    rw [w1, if_pos (show R32 (R.length : Int) by omega), if_pos (by omega), j3 fu r n n (by omega) d4 hn, obind2_ret, hu]
    dsimp only
    rw [Int.toNat_natCast, w3, if_pos (show R32 ((b : Int) + u) by omega), e, if_pos (by omega), if_pos (by omega), if_pos (by omega), show ((b : Int) + u).toNat = b + u by omega, Int.toNat_natCast, show (KRs.mk vs (h : Int)).values (h - 1) = st (h - 1) from ha (h - 1) (by omega)] <;> rfl
set_option maxRecDepth 20000 in
theorem s_35 (hfu : 10 < fu) (hX : CX f n C M W1 W3 Wj W5 M1 Mp M3 Mj Ml M5 M6 ct X) (hS : StI X M1 Mp M3 Mj Ml g0 g i b R lt h af rr rl st vs) (hm : MR M6 mb ag my rg) (hi : i < X.e g) (h0 : 0 ≤ sp) (h1 : sp + 1 ≤ 100000) (ho : C.ops i = 35) : SR X M1 Mp M3 Mj Ml M6 n g0 (sp + 1) lt r (f_Ma_takeStep fu C ct W1 W3 Wj W5 mb ag (KMa.mk sp 0 ((i + 1 : Nat) : Int)) (KAs.mk st h) af (C.ops i) i) (f_Mo_step fu r (KMc.mk (X.p g i + 1) n) my rg (KRs.mk vs h) rr rl (KMt.mk f n) M1 M3 Mj M5 M (C.ops i) (X.p g i)) := by
  obtain ⟨x, y, R0, e1, e2, e3, e4, e5, e6, e7⟩ := hS.op hX hi (by omega)
  obtain ⟨d1, d2, d3, d4, d5, d6, d7⟩ := hS.dec hX hi
  obtain ⟨⟨j1, j2, j3⟩, j4, j5⟩ := d7.2.1 (by omega)
  obtain ⟨u, hu⟩ := Int.eq_ofNat_of_zero_le j4
  have hn := hX.2.2.2.2.1
  obtain ⟨g1, g2, g3⟩ := hX.2.2.2.1
  rw [ho] at e3; unfold opF at e3
  simp only [Int.reduceEq, reduceIte] at e3
  rw [hu, Int.toNat_natCast] at e3
  obtain ⟨q1, e3⟩ := ite_some e3
  have q2 := Option.some.inj e3
  have hty := g3 u q1
  obtain ⟨y1, y2⟩ := pushA_live (t := M6.globalTypes u) (x := x) (by omega) e4
  rw [q2] at y1 y2
  rw [if_neg (show ¬ M6.globalTypes u = 0 by omega)] at y2
  have hgl := hm.2.2.2.2.1 u (by omega)
  refine sr_push (h' := h) (l := []) (l' := x.1) (t := M6.globalTypes u) (v := ag.globals u) (v' := rg.globals u) hS e1 hi e5 e2 y1 rfl y2 rfl (fun q => by rw [hgl]; exact hm.2.2.2.2.2.1 u q1 q) hgl.symm rfl hm ?_ ?_
  · rw [ho, tk_var h0 h1 (by decide) (by decide) d1, v32 j4 j5, hu]
    unfold f_Ma_performVariable
    simp only [jp, Int.reduceEq, reduceIte]
    rw [if_pos (by omega), Int.toNat_natCast, cm_push]
    by_cases c : h < 12096
    · simp only [if_pos c, obind_ret]
    · simp only [if_neg c, obind_ret]
  · rw [ho]
    unfold f_Mo_step
    simp only [jp, Int.reduceEq, reduceIte]
    rw [j3 fu r n n (by omega) d4 hn, obind2_ret, hu]
    dsimp only
    rw [if_pos (by omega), Int.toNat_natCast] <;> rfl
set_option maxRecDepth 20000 in
theorem s_36 (hfu : 10 < fu) (hX : CX f n C M W1 W3 Wj W5 M1 Mp M3 Mj Ml M5 M6 ct X) (hS : StI X M1 Mp M3 Mj Ml g0 g i b R lt h af rr rl st vs) (hm : MR M6 mb ag my rg) (hi : i < X.e g) (h0 : 0 ≤ sp) (h1 : sp + 1 ≤ 100000) (ho : C.ops i = 36) : SR X M1 Mp M3 Mj Ml M6 n g0 (sp + 1) lt r (f_Ma_takeStep fu C ct W1 W3 Wj W5 mb ag (KMa.mk sp 0 ((i + 1 : Nat) : Int)) (KAs.mk st h) af (C.ops i) i) (f_Mo_step fu r (KMc.mk (X.p g i + 1) n) my rg (KRs.mk vs h) rr rl (KMt.mk f n) M1 M3 Mj M5 M (C.ops i) (X.p g i)) := by
  obtain ⟨x, y, R0, e1, e2, e3, e4, e5, e6, e7⟩ := hS.op hX hi (by omega)
  obtain ⟨d1, d2, d3, d4, d5, d6, d7⟩ := hS.dec hX hi
  obtain ⟨⟨j1, j2, j3⟩, j4, j5⟩ := d7.2.1 (by omega)
  obtain ⟨x', R', v1, v2, v3, v4⟩ := hS.1.vals
  obtain ⟨u, hu⟩ := Int.eq_ofNat_of_zero_le j4
  have hn := hX.2.2.2.2.1
  have hh := hS.2.2.2.2.2.2.2.1
  have ha := hS.2.2.2.2.2.2.2.2.1
  obtain ⟨g1, g2, g3⟩ := hX.2.2.2.1
  rw [ho] at e3; unfold opF at e3
  simp only [Int.reduceEq, reduceIte] at e3
  rw [hu, Int.toNat_natCast] at e3
  obtain ⟨q1, e3⟩ := ite_some e3
  obtain ⟨z, q2, q3⟩ := omap_some e3
  have hty := g3 u q1.1
  obtain ⟨k1, k2, k3, k4, k5⟩ := popA_live q2 e4
  rw [k2 (by omega)] at k1
  subst q3
  have hfl : flat (x :: R0) = M6.globalTypes u :: (z.2.1 ++ flat R0) := by show x.1 ++ flat R0 = _; rw [k1, List.cons_append]
  have hlen : h = b + nv M1 M3 Mj g + ((z.2.1 ++ flat R0).length + 1) := by rw [e7]; show _ + (flat (x :: R0)).length = _; rw [hfl, List.length_cons]
  rw [e1, hfl] at v4
  have hv : M6.globalTypes u = 127 → R32 (st (h - 1)).toInt := fun q => by
    have := v4.1 q
    rwa [show b + nv M1 M3 Mj g + (z.2.1 ++ flat R0).length = h - 1 by omega] at this
  obtain ⟨m1, m2, m3, m4, m5, m6, m7⟩ := hm
  have hm' : MR M6 mb (KAg.mk ag.written ag.pages (vp_updL ag.globals u (st (h - 1)))) my (KRg.mk rg.pages (vp_updL rg.globals u (st (h - 1)))) := by
    refine ⟨m1, m2, m3, m4, fun k hk => ?_, fun k hk hq => ?_, m7⟩
    · show vp_updL ag.globals u _ k = vp_updL rg.globals u _ k
      by_cases c : k = u
      · rw [c, updL_s, updL_s]
      · rw [updL_n c, updL_n c]; exact m5 k hk
    · show R32 (vp_updL rg.globals u _ k).toInt
      by_cases c : k = u
      · rw [c, updL_s]; exact hv (c ▸ hq)
      · rw [updL_n c]; exact m6 k hk hq
  refine sr_go (h' := h - [M6.globalTypes u].length) hS (hS.1.pop (l := [M6.globalTypes u]) e1 (by omega) (by omega) e5 e2 k4 k1) (by omega) (fun k hk => ha k (by omega)) hm' ?_ ?_
  · rw [ho, tk_var h0 h1 (by decide) (by decide) d1, v32 j4 j5, hu]
    unfold f_Ma_performVariable
    simp only [jp, Int.reduceEq, reduceIte]
    rw [cm_pop (by omega) hh, obind_ret, if_pos (by omega), Int.toNat_natCast]
    rfl
  · rw [ho]
    unfold f_Mo_step
    simp only [jp, Int.reduceEq, reduceIte]
    rw [j3 fu r n n (by omega) d4 hn, obind2_ret, rm_pop (by omega) hh, obind_ret, hu]
    dsimp only
    rw [if_pos (by omega), Int.toNat_natCast, ha (h - 1) (by omega)]
    rfl
end VAS

/-! RUN: a call is left -/
section LEV
variable {fu g0 g i b lt h : Nat} {f : Nat → Int32} {n sp r : Int} {C : KCo} {M : KMe} {W1 : KW1} {W3 : KW3} {Wj : KWj} {W5 : KW5} {M1 : KM1} {Mp : KMp} {M3 : KM3} {Mj : KMj} {Ml : KMl} {M5 : KM5} {M6 : KM6} {ct : KCt} {X : SP} {R : List (Nat × Nat × Nat)} {af af' : KAf} {rr rr' : KRr} {rl rl' : KRl} {st vs : Nat → Int64}
/-- the stack with a value of type t (0: none) put at b -/
abbrev stp (st : Nat → Int64) (t : Int) (b : Nat) (v : Int64) : Nat → Int64 := if t = 0 then st else vp_updL st b v
abbrev one (t : Int) : Nat := if t = 0 then 0 else 1
set_option maxRecDepth 20000 in
theorem stp_lo {t : Int} {v : Int64} {k : Nat} (hk : k < b) : stp st t b v k = st k := by
  by_cases c : t = 0
  · rw [show stp st t b v = st from if_pos c]
  · rw [show stp st t b v = vp_updL st b v from if_neg c, updL_n (by omega)]
set_option maxRecDepth 20000 in
/-- the caller goes on with what it was given -/
theorem FI.ret {a : Nat × Nat × Nat} {R' : List (Nat × Nat × Nat)} {t : Int} {v : Int64} (ht : Ty0 t) (hF : FI X M1 Mp M3 Mj Ml af rr rl st (a :: R') t lt b) (hv : t = 127 → R32 v.toInt) : FI X M1 Mp M3 Mj Ml af rr rl (stp st t b v) (a :: R') 0 lt (b + one t) := by
  obtain ⟨a1, a2, a3, a4, a5, a6, a7, a8, a9, ⟨x, R0, b1, b2, b3, b4⟩, lb, c1, c2, c3, c4, c5⟩ := hF
  obtain ⟨y1, y2⟩ := pushA_live ht (Live.cons.mp b2).1
  refine ⟨a1, a2, a3, a4, a5, a6, a7, a8, a9.cg (fun k hk => stp_lo (by omega)), ⟨pushA t x, R0, b1, Live.cons.mpr ⟨y1, (Live.cons.mp b2).2⟩, ?_, ?_⟩, lb, c1, c2, c3, c4, FI.cg c5 (fun k _ => ⟨rfl, rfl, rfl, rfl, rfl, rfl, rfl⟩) (fun k _ => ⟨rfl, rfl⟩) (fun k hk => stp_lo (by omega))⟩
  · show b + one t = _ + ((pushA t x).1 ++ flat R0).length
    have b3' : b = a.2.2 + nv M1 M3 Mj a.1 + (x.1 ++ flat R0).length := b3
    rw [y2]
    by_cases c : t = 0
    · rw [if_pos c, show one t = 0 from if_pos c]; omega
    · rw [if_neg c, show one t = 1 from if_neg c, List.cons_append, List.length_cons]; omega
  · show VT _ _ ((pushA t x).1 ++ flat R0)
    have b3' : b = a.2.2 + nv M1 M3 Mj a.1 + (x.1 ++ flat R0).length := b3
    rw [y2]
    by_cases c : t = 0
    · rw [if_pos c, show stp st t b v = st from if_pos c]; exact b4
    · rw [if_neg c, show stp st t b v = vp_updL st b v from if_neg c, List.cons_append, b3']
      exact VT.push b4 hv
set_option maxRecDepth 20000 in
theorem cm_unwind {ma : KMa} {t : Int} {to : Nat} (ht : Ty0 t) (hto : to + one t ≤ h) (hh : h ≤ 12096) : f_Ma_unwind ma (KAs.mk st h) to (rT t) = .ret (ma, KAs.mk (stp st t to (st (h - 1))) ((to + one t : Nat) : Int)) := by
  unfold f_Ma_unwind
  simp only [jp]
  by_cases c : t = 0
  · have e : rT t = 64 := by rw [c]; rfl
    rw [e, if_pos rfl, if_pos rfl, show stp st t to (st (h - 1)) = st from if_pos c, show one t = 0 from if_pos c]
    rfl
  · have e : ¬ rT t = 64 := by
      rcases ht with q | q | q
      · exact absurd q c
      · rw [q]; decide
      · rw [q]; decide
    have o1 : one t = 1 := if_neg c
    rw [if_neg e, cm_pop (by omega) hh, obind_ret]
    dsimp only
    rw [if_neg e, cm_push, if_pos (by omega), obind_ret, show stp st t to (st (h - 1)) = vp_updL st to (st (h - 1)) from if_neg c, o1]
set_option maxRecDepth 20000 in
/-- both leave the innermost call -/
theorem lv_both (hX : CX f n C M W1 W3 Wj W5 M1 Mp M3 Mj Ml M5 M6 ct X) (hS : StI X M1 Mp M3 Mj Ml g0 g i b R lt h af rr rl st vs) (hr : rl'.labelAt = rl.labelAt ∧ rl'.labelHeight = rl.labelHeight) {h' : Nat} (hh' : h' ≤ h) (hb : b + one (res M1 M3 g) ≤ h') (hv : res M1 M3 g = 127 → R32 (st (h' - 1)).toInt) {nx c : Int} : ∃ (ma' : KMa) (as' : KAs) (af' : KAf) (mc' : KMc) (rs' : KRs) (rr' : KRr) (rl'' : KRl) (lb : Nat), f_Ma_leave W1 W3 Wj (KMa.mk sp 0 nx) (KAs.mk st h') af = .ret (ma', as', af') ∧ f_Mo_leave r (KMc.mk c n) (KRs.mk vs h') rr rl' M1 M3 = .ret (r, mc', rs', rr', rl'', decide (R ≠ [])) ∧ ma'.steps = sp ∧ lb < lt ∧ ((R ≠ [] ∧ RI X M1 Mp M3 Mj Ml n g0 ma' as' af' mc' rs' rr' rl'' lb) ∨ (R = [] ∧ ma'.reason = 0 ∧ af'.depth = 0 ∧ (res M1 M3 g0 ≠ 0 → as'.stack 0 = rs'.values 0))) := by
  obtain ⟨hF, s2, s3, s4, s5, s6, s7, s8, s9, s10⟩ := hS
  obtain ⟨a1, a2, a3, a4, a5, a6, a7, a8, a9, ⟨x, R0, b1, b2, b3, b4⟩, lb, c1, c2, c3, c4, c5⟩ := hF
  dsimp only at *
  have hM := hX.1
  have hrs := hM.rs a1
  obtain ⟨T1, t1, t2, t3, t4, t5, t6⟩ := hM.ty a1
  have ed : af.depth - 1 = (R.length : Int) := by omega
  have er : rr.frames - 1 = (R.length : Int) := by omega
  have hag : ∀ k, k < b + one (res M1 M3 g) → stp vs (res M1 M3 g) b (st (h' - 1)) k = stp st (res M1 M3 g) b (st (h' - 1)) k := by
    intro k hk
    by_cases q : res M1 M3 g = 0
    · rw [show stp vs (res M1 M3 g) b (st (h' - 1)) = vs from if_pos q, show stp st (res M1 M3 g) b (st (h' - 1)) = st from if_pos q]
      exact s9 k (by omega)
    · rw [show stp vs (res M1 M3 g) b (st (h' - 1)) = vp_updL vs b (st (h' - 1)) from if_neg q, show stp st (res M1 M3 g) b (st (h' - 1)) = vp_updL st b (st (h' - 1)) from if_neg q]
      exact ag_set s9 (by omega) hk
  -- the reference
  have eR : f_Mo_leave r (KMc.mk c n) (KRs.mk vs h') rr rl' M1 M3 = .ret (r, KMc.mk (rr.frameReturn R.length) n, KRs.mk (stp vs (res M1 M3 g) b (st (h' - 1))) ((b + one (res M1 M3 g) : Nat) : Int), KRr.mk rr.frameFunction rr.frameReturn rr.frameBase rr.frameLabels R.length, KRl.mk rl'.labelAt rl'.labelHeight lb, decide (R ≠ [])) := by
    unfold f_Mo_leave
    simp only [jp_ite]
    simp only [jp]
    rw [er, if_pos (by omega), if_pos (by omega), Int.toNat_natCast, a5, mo_ty hM a1, obind_ret, if_pos (by omega), Int.toNat_natCast, a7, c1]
    simp only [if_pos (show (0 : Int) ≤ (R.length : Int) ∧ (R.length : Int) < 100 by omega), if_pos (show (0 : Int) ≤ (R.length : Int) ∧ (R.length : Int) < 101 by omega)]
    have eg : (if (R.length : Int) ≤ 0 then false else true) = decide (R ≠ []) := by
      cases R with
      | nil => rfl
      | cons a R' => rw [if_neg (by rw [List.length_cons]; omega)]; rfl
    rw [eg]
    by_cases q : res M1 M3 g = 0
    · rw [show (if M1.results (tyOf M3 g) = 0 then false else true) = false from if_pos q]
      simp only [reduceIte, Bool.false_eq_true]
      rw [show stp vs (res M1 M3 g) b (st (h' - 1)) = vs from if_pos q, show one (res M1 M3 g) = 0 from if_pos q]
      rfl
    · have o1 : one (res M1 M3 g) = 1 := if_neg q
      rw [show (if M1.results (tyOf M3 g) = 0 then false else true) = true from if_neg q]
      simp only [reduceIte]
      rw [rm_pop (by omega) (by omega), obind_ret]
      dsimp only
      rw [rm_push (by omega), if_pos (by omega), obind2_ret, show stp vs (res M1 M3 g) b (st (h' - 1)) = vp_updL vs b (st (h' - 1)) from if_neg q, o1, s9 (h' - 1) (by omega)]
  cases R with
  | nil =>
    have hb0 : b = 0 := c5.2
    have eC : f_Ma_leave W1 W3 Wj (KMa.mk sp 0 nx) (KAs.mk st h') af = .ret (KMa.mk sp 0 (af.returns 0), KAs.mk (stp st (res M1 M3 g) b (st (h' - 1))) ((b + one (res M1 M3 g) : Nat) : Int), KAf.mk af.functions af.bases af.returns 0 af.variables af.values) := by
      unfold f_Ma_leave
      simp only [jp]
      rw [ed, if_pos (by decide), if_pos (by decide), show (([] : List (Nat × Nat × Nat)).length : Int).toNat = ([] : List (Nat × Nat × Nat)).length from rfl, a4, wa_rs hM a1, obind_ret, s3, cm_unwind hrs hb (by omega), obind_ret]
      rfl
    refine ⟨_, _, _, _, _, _, _, lb, eC, eR, rfl, by omega, Or.inr ⟨rfl, rfl, rfl, fun q => ?_⟩⟩
    have hgg : g = g0 := Option.some.inj s10
    rw [← hgg] at q
    show stp st (res M1 M3 g) b (st (h' - 1)) 0 = stp vs (res M1 M3 g) b (st (h' - 1)) 0
    exact (hag 0 (by rw [show one (res M1 M3 g) = 1 from if_neg q]; omega)).symm
  | cons a R' =>
    obtain ⟨g', i', b'⟩ := a
    obtain ⟨q1, q2⟩ := a8 _ _ rfl
    have hF2 := FI.ret (v := st (h' - 1)) hrs c5 hv
    have g1 : (g' : Int) < M3.functions := c5.1
    obtain ⟨T2, u1, u2, u3, u4, u5, u6⟩ := hM.ty g1
    have hpc := hM.pc g1
    have hLo := (hX.2.2.2.2.2.2.1 g' g1).2.2.2.2.2.2.2.2.2.2.2.2.2.1
    have k1 : af.functions R'.length = g' := c5.2.2.2.1
    have k2 : af.bases R'.length = b' := c5.2.2.2.2.2.1
    have hbb : b' + nv M1 M3 Mj g' ≤ b := by
      obtain ⟨_, _, _, _, _, _, _, _, _, ⟨x', R0', _, _, b3', _⟩, _⟩ := c5
      dsimp only at b3'; omega
    have hl1 : ((((g', i', b') :: R').length : Nat) : Int) - 1 = (R'.length : Int) := by rw [List.length_cons]; omega
    have eC : f_Ma_leave W1 W3 Wj (KMa.mk sp 0 nx) (KAs.mk st h') af = .ret (KMa.mk sp 0 i', KAs.mk (stp st (res M1 M3 g) b (st (h' - 1))) ((b + one (res M1 M3 g) : Nat) : Int), KAf.mk af.functions af.bases af.returns ((R'.length + 1 : Nat) : Int) b' ((b' + nv M1 M3 Mj g' : Nat) : Int)) := by
      unfold f_Ma_leave
      simp only [jp]
      rw [ed, if_pos (by omega), if_pos (by omega), Int.toNat_natCast, a4, wa_rs hM a1, obind_ret, s3, cm_unwind hrs hb (by omega), obind_ret, if_neg (show ¬ ((((g', i', b') :: R').length : Nat) : Int) ≤ 0 by rw [List.length_cons]; omega), hl1, if_pos (by omega), if_pos (by rw [List.length_cons] at s7; omega), Int.toNat_natCast, k1, wa_pc hM g1, obind_ret, k2, Int.toNat_natCast, hLo.1, q1]
      have e9 : (b' : Int) + pcn M1 M3 g' + Mj.localCount g' = ((b' + nv M1 M3 Mj g' : Nat) : Int) := by
        show _ = ((b' + (pcn M1 M3 g' + Mj.localCount g').toNat : Nat) : Int)
        have := hLo.2.1; omega
      rw [e9]
      simp only [if_pos (show R32 ((b' : Int) + pcn M1 M3 g') by omega), if_pos (show (0 : Int) ≤ (g' : Int) ∧ (g' : Int) < 30 by omega), if_pos (show R32 ((b' + nv M1 M3 Mj g' : Nat) : Int) by omega), if_pos (show (0 : Int) ≤ (R'.length : Int) ∧ (R'.length : Int) < 100 by rw [List.length_cons] at s7; omega), if_pos (show R32 (R'.length : Int) by rw [List.length_cons] at s7; omega)]
      rfl
    refine ⟨_, _, _, _, _, _, _, lb, eC, eR, rfl, by omega, Or.inl ⟨List.cons_ne_nil _ _, g', i', b', R', b + one (res M1 M3 g), ⟨?_, rfl, rfl, rfl, rfl, rfl, by rw [List.length_cons] at s7; omega, by omega, hag, ?_⟩, rfl, rfl, rfl, ?_, rfl⟩⟩
    · exact FI.cg hF2 (fun k _ => ⟨rfl, rfl, rfl, rfl, rfl, rfl, rfl⟩) (fun k _ => ⟨congrFun hr.1 k, congrFun hr.2 k⟩) (fun k _ => rfl)
    · cases R' with
      | nil => exact s10
      | cons a2 R2 => exact s10
    · show KMc.mk (rr.frameReturn ((g', i', b') :: R').length) n = KMc.mk (X.p g' i') n
      rw [q2]
end LEV

/-! RUN: branches -/
section BRA
variable {fu g0 g i b lt h : Nat} {f : Nat → Int32} {n sp r : Int} {C : KCo} {M : KMe} {W1 : KW1} {W3 : KW3} {Wj : KWj} {W5 : KW5} {M1 : KM1} {Mp : KMp} {M3 : KM3} {Mj : KMj} {Ml : KMl} {M5 : KM5} {M6 : KM6} {ct : KCt} {X : SP} {R : List (Nat × Nat × Nat)} {af : KAf} {rr : KRr} {rl : KRl} {st st' vs : Nat → Int64}
set_option maxRecDepth 20000 in
/-- the innermost call goes on elsewhere, with fewer open blocks -/
theorem FI.jmp {i' m : Nat} {y : Fr} {R1 : SS} {lt' : Int} (e : X.F g i' = y :: R1) (hF : FI X M1 Mp M3 Mj Ml af rr rl st ((g, i, b) :: R) 0 lt h) (h1 : X.s g ≤ i') (h2 : i' ≤ X.e g) (hk : X.k g i' = (X.k g i).drop m) (hm : m ≤ (X.k g i).length) (hL : Live (y :: R1)) (hs : ∀ k, k < b + nv M1 M3 Mj g → st' k = st k) (hT : VT st' (b + nv M1 M3 Mj g) (flat (y :: R1))) : FI X M1 Mp M3 Mj Ml af rr (KRl.mk rl.labelAt rl.labelHeight lt') st' ((g, i', b) :: R) 0 (lt - m) (b + nv M1 M3 Mj g + tot (y :: R1)) := by
  obtain ⟨a1, a2, a3, a4, a5, a6, a7, a8, a9, ⟨x, R0, b1, b2, b3, b4⟩, lb, c1, c2, c3, c4, c5⟩ := hF
  dsimp only at *
  have hlen : (X.k g i').length = (X.k g i).length - m := by rw [hk, List.length_drop]
  refine ⟨a1, h1, h2, a4, a5, a6, a7, a8, a9.cg (fun k hk => hs k hk), ⟨y, R1, e, hL, rfl, hT⟩, lb, c1, c2, by show lt - m = lb + 1 + (X.k g i').length; omega, ?_, FI.cg c5 (fun k _ => ⟨rfl, rfl, rfl, rfl, rfl, rfl, rfl⟩) (fun k _ => ⟨rfl, rfl⟩) (fun k hk => hs k (Nat.lt_of_lt_of_le hk (Nat.le_add_right _ _)))⟩
  show LB X g _ _ (lt - m) (X.k g i')
  rw [hk]
  intro k o hko
  rw [List.getElem?_drop] at hko
  have := c4 (m + k) o hko
  rwa [show lt - 1 - (m + k) = lt - m - 1 - k by omega] at this
set_option maxRecDepth 20000 in
/-- a byte that is 3 -/
theorem by3 (hB : BB f) (k : Nat) : (f k).toInt = 3 ↔ by8 (f k) = 3 := by
  have h := hB k
  have h2 : (f k).toInt = (f k).toInt8.toInt := by rw [← h, Int8.toInt_toInt32, h]
  have h3 := Int8.le_toInt (f k).toInt8
  have h4 := Int8.toInt_lt (f k).toInt8
  rw [by8_B hB]
  by_cases c : (f k).toInt < 0
  · rw [if_pos c]; omega
  · rw [if_neg c]
set_option maxRecDepth 20000 in
/-- at an opener: the types behind it, under an empty block -/
theorem at_opn (hG : GF f n C M M1 Mp M3 Wj Mj Ml M5 M6 ct X g) {o : Nat} (h1 : X.s g ≤ o) (h2 : o < X.e g) (h3 : isOp (C.ops o)) : X.F g (o + 1) = ([], false, hdO C o) :: (X.F g (o + 1)).tail ∧ tot (X.F g (o + 1)) = tot (X.F g (o + 1)).tail ∧ ct.heights o = (tot (X.F g (o + 1)).tail : Int) ∧ X.k g (o + 1) = o :: X.k g o ∧ by8 (f (X.p g o).toNat) = C.ops o ∧ by8 (f (X.p g o + 1).toNat) = C.extras o ∧ (C.extras o = 64 ∨ C.extras o = 127 ∨ C.extras o = 126) ∧ X.p g (o + 1) = X.p g o + 1 + 1 ∧ 0 ≤ X.p g o ∧ X.p g (o + 1) ≤ 2000 := by
  have hV := hG.2.2.2.2.2.2.2.2.2.2.2.2.2.2
  obtain ⟨x, R, e1, e2⟩ := stV_inv (hV.2.1 o h1 h2)
  obtain ⟨d1, d2, d3, d4, d5, d6⟩ := hG.2.2.2.2.2.2.2.1 o h1 h2
  obtain ⟨k1, k2, k3⟩ := d6.1 h3
  have hF : ∃ y, X.F g (o + 1) = ([], false, hdO C o) :: y :: R := by
    rcases e2 with ⟨c, y, f1, f2⟩ | ⟨c, w, R', f1, f2, f3⟩ | ⟨c, f2⟩ | ⟨c1, c2, c3, y, f1, f2⟩
    · exact ⟨y, f2⟩
    · omega
    · omega
    · exact absurd h3 c1
  obtain ⟨y, hF⟩ := hF
  have ht : tot (X.F g (o + 1)) = tot (X.F g (o + 1)).tail := by rw [hF]; rfl
  refine ⟨by rw [hF]; rfl, ht, ?_, (hG.2.2.2.2.2.2.2.2.1.2.1 o h1 h2).1 h3, d4, k2.symm, k3, k1, d1, d3⟩
  rw [← ht]; exact (hV.2.2.2 o h1 h2).1 h3
set_option maxRecDepth 20000 in
theorem br_both (hX : CX f n C M W1 W3 Wj W5 M1 Mp M3 Mj Ml M5 M6 ct X) (hS : StI X M1 Mp M3 Mj Ml g0 g i b R lt h af rr rl st vs) {x x' z : Fr} {R0 : SS} {l0 : List Int} {h' k : Nat} {l : Int} (e1 : X.F g i = x :: R0) (hx : x.1 = l0 ++ x'.1) (hx2 : x'.2 = x.2) (hh' : h' = h - l0.length) (hl : labA (x :: R0) k = some l) (hz : popO l x' = some z) {nx c : Int} : ∃ (ma' : KMa) (as' : KAs) (af' : KAf) (mc' : KMc) (rs' : KRs) (rr' : KRr) (rl' : KRl) (lb : Nat) (goes : Bool), f_Ma_branch C ct W1 W3 Wj (KMa.mk sp 0 nx) (KAs.mk st h') af (tgt (X.k g i) k) = .ret (ma', as', af') ∧ f_Mo_branch r (KMc.mk c n) (KRs.mk vs h') rr rl (KMt.mk f n) M1 M3 M k = .ret (r, mc', rs', rr', rl', goes) ∧ ma'.steps = sp ∧ lb ≤ lt ∧ ((goes = true ∧ RI X M1 Mp M3 Mj Ml n g0 ma' as' af' mc' rs' rr' rl' lb) ∨ (goes = false ∧ ma'.reason = 0 ∧ af'.depth = 0 ∧ (res M1 M3 g0 ≠ 0 → as'.stack 0 = rs'.values 0))) := by
  have hG := hS.gf hX
  obtain ⟨x9, R9, v1, v2, v3, v4⟩ := hS.1.vals
  rw [e1] at v2 v3 v4
  have hs : X.s g ≤ i := hS.1.2.1
  have hie : i ≤ X.e g := hS.1.2.2.1
  have hn := hX.2.2.2.2.1
  have hh := hS.2.2.2.2.2.2.2.1
  have ha := hS.2.2.2.2.2.2.2.2.1
  have hlt := hS.lle hX
  have hrl := hS.2.2.2.2.2.1
  have hvl := hS.2.2.2.1
  have hSK := hG.2.2.2.2.2.2.2.2.1
  have hste := hG.2.2.2.2.2.2.2.2.2.1
  have hV := hG.2.2.2.2.2.2.2.2.2.2.2.2.2.2
  have hLI := LI.all hSK hV (i - X.s g) i (by omega) hie
  rw [e1] at hLI
  have hlen := hLI.len
  have hxl : lv x' := ⟨by rw [hx2]; exact (Live.cons.mp v2).1.1, fun t ht => (Live.cons.mp v2).1.2 t (by rw [hx]; exact List.mem_append_right _ ht)⟩
  have hfl : flat (x :: R0) = l0 ++ (x'.1 ++ flat R0) := by show x.1 ++ flat R0 = _; rw [hx, List.append_assoc]
  have htt : tot (x :: R0) = l0.length + (x'.1 ++ flat R0).length := by show (flat (x :: R0)).length = _; rw [hfl, List.length_append]
  have hh2 : h' = b + nv M1 M3 Mj g + (x'.1 ++ flat R0).length := by omega
  have v5 : VT st (b + nv M1 M3 Mj g) (x'.1 ++ flat R0) := by rw [hfl] at v4; exact VT.app l0 _ v4
  obtain ⟨lb0, hlb1, hlb2, hlb3, hlb4, _⟩ := hS.1.2.2.2.2.2.2.2.2.2.2
  dsimp only at hlb1 hlb2 hlb3 hlb4
  obtain ⟨xk, hxk, hxl2⟩ : ∃ xk : Fr, (x :: R0)[k]? = some xk ∧ xk.2.2.1 = l := omap_some hl
  have hkl : k < (x :: R0).length := (List.getElem?_eq_some_iff.mp hxk).1
  cases ho : (X.k g i)[k]? with
  | none =>
    have hk : k = (X.k g i).length := by have := List.getElem?_eq_none_iff.mp ho; omega
    obtain ⟨xb, f1, f2⟩ := hLI.bot
    rw [← hk, hxk] at f1
    have hlr : l = res M1 M3 g := by rw [← hxl2, Option.some.inj f1, f2]
    rw [hlr] at hz
    have hrs := hX.1.rs hS.1.1
    obtain ⟨p1, p2, p3⟩ := popO_live hz hrs hxl
    have hone : b + one (res M1 M3 g) ≤ h' := by
      by_cases q : res M1 M3 g = 0
      · rw [show one (res M1 M3 g) = 0 from if_pos q]; omega
      · rw [if_neg q] at p1
        rw [show one (res M1 M3 g) = 1 from if_neg q, hh2, p1, List.cons_append, List.length_cons]; omega
    have hval : res M1 M3 g = 127 → R32 (st (h' - 1)).toInt := fun q => by
      rw [if_neg (show ¬ res M1 M3 g = 0 by omega)] at p1
      rw [p1, List.cons_append] at v5 hh2
      have := v5.1 q
      rwa [show b + nv M1 M3 Mj g + (z.1 ++ flat R0).length = h' - 1 by rw [List.length_cons] at hh2; omega] at this
    obtain ⟨ma', as', af', mc', rs', rr', rl', lb, y1, y2, y3, y4, y5⟩ := lv_both (sp := sp) (r := r) (nx := nx) (c := c) (rl' := rl) (h' := h') hX hS ⟨rfl, rfl⟩ (by omega) hone hval
    have et : tgt (X.k g i) k = -1 := by unfold tgt; rw [ho]
    refine ⟨ma', as', af', mc', rs', rr', rl', lb, decide (R ≠ []), ?_, ?_, y3, by omega, ?_⟩
    · unfold f_Ma_branch
      rw [et]
      simp only [jp]
      rw [if_neg (by decide), y1, obind_ret]
    · unfold f_Mo_branch
      have ei : rl.labelTop - 1 - (k : Int) = (lb0 : Int) := by omega
      rw [if_pos (show R32 (rl.labelTop - 1) by omega), ei, if_pos (by omega), if_pos (by omega), Int.toNat_natCast, hlb2, if_neg (by decide), y2, obind2_ret]
    · rcases y5 with ⟨y5, y6⟩ | ⟨y5, y6⟩
      · exact Or.inl ⟨decide_eq_true y5, y6⟩
      · exact Or.inr ⟨decide_eq_false (fun q => q y5), y6⟩
  | some o =>
    obtain ⟨xo, f1, f2, f3, f4, f5, f6, f7, f8⟩ := hLI.get ho
    rw [hxk] at f1
    cases f1
    obtain ⟨u1, u2, u3, u4, u5, u6, u7, u8, u9, u10⟩ := at_opn hG f5 f6 f7
    obtain ⟨E, w, R', w1, w2, w3, w4, w5, w6, w7, w8, w9⟩ := at_end hSK hste hV f5 f6 f7
    have hkn : k < (X.k g i).length := (List.getElem?_eq_some_iff.mp ho).1
    obtain ⟨q1, q2⟩ := hlb4 k o ho
    have f3' : R0.drop k = (X.F g (o + 1)).tail := f3
    -- what lies under the block
    have hQl : Live (X.F g (o + 1)).tail := by rw [← f3']; exact Live.drop (Live.cons.mp v2).2 k
    have hfd : ∀ (m : Nat) (L : SS), ∃ p, flat L = p ++ flat (L.drop m) := by
      intro m
      induction m with
      | zero => intro L; exact ⟨[], rfl⟩
      | succ m ih =>
        intro L
        cases L with
        | nil => exact ⟨[], rfl⟩
        | cons a L => obtain ⟨p, hp⟩ := ih L; exact ⟨a.1 ++ p, by show a.1 ++ flat L = _; rw [hp, List.append_assoc]; rfl⟩
    obtain ⟨p, hp⟩ := hfd k R0
    rw [f3'] at hp
    have v6 : VT st (b + nv M1 M3 Mj g) (flat (X.F g (o + 1)).tail) := by
      have := VT.app x'.1 _ v5
      rw [hp] at this
      exact VT.app p _ this
    have hQn : (flat R0).length = p.length + tot (X.F g (o + 1)).tail := by rw [hp, List.length_append]; rfl
    have eB : af.values + ct.heights o = ((b + nv M1 M3 Mj g + tot (X.F g (o + 1)).tail : Nat) : Int) := by rw [hvl, u3]; omega
    have et : tgt (X.k g i) k = (o : Int) := by unfold tgt; rw [ho]
    have ho2 : o < 2000 := by have := hG.2.2.1; omega
    have ei : rl.labelTop - 1 - (k : Int) = ((lt - 1 - k : Nat) : Int) := by omega
    have hty := rT_uT u7
    have eb3 : (f (X.p g o).toNat).toInt = 3 ↔ C.ops o = 3 := by rw [by3 hX.2.2.2.2.2.2.2, u5]
    have hME := hG.2.2.2.2.2.2.2.2.2.2.1 o f5 f6 f7
    have heo : M.endOf (X.p g o).toNat = X.p g E := by rw [hME.2 (by rw [hste]; exact List.not_mem_nil), w1, Int.toNat_natCast]
    have hpE : X.p g (E + 1) = X.p g E + 1 := (hG.2.2.2.2.2.2.2.1 E (by omega) w3).2.2.2.2.2.2.2.2.2.2.2.2 (by omega)
    have hpE0 := (hG.2.2.2.2.2.2.2.1 E (by omega) w3).1
    have hpE1 := (hG.2.2.2.2.2.2.2.1 E (by omega) w3).2.2.1
    have ebt : f_Mo_blockType (KMt.mk f n) (X.p g o) = .ret (C.extras o) := by
      unfold f_Mo_blockType
      rw [if_pos (by omega), if_pos (by omega)]
      rw [← u6]
    have hdr : (X.k g i).drop k = o :: X.k g o := by
      rw [← f4]
      obtain ⟨j1, j2⟩ := List.getElem?_eq_some_iff.mp ho
      rw [← j2]; exact List.drop_eq_getElem_cons j1
    have heg := hG.2.2.1
    have hb9 : b + nv M1 M3 Mj g + tot (X.F g (o + 1)).tail ≤ h' := by rw [hh2, List.length_append]; omega
    obtain ⟨s1, s2, s3, s4, s5, s6, s7, s8, s9, s10⟩ := hS
    by_cases c3 : C.ops o = 3
    · have hF := s1.jmp (i' := o + 1) (m := k) (st' := st) (lt' := ((lt - k : Nat) : Int)) u1 (by omega) (by omega) (by rw [u4, hdr]) (by omega) (Live.cons.mpr ⟨⟨rfl, fun t ht => absurd ht List.not_mem_nil⟩, hQl⟩) (fun _ _ => rfl) (by exact v6)
      refine ⟨KMa.mk sp 0 ((o + 1 : Nat) : Int), KAs.mk st ((b + nv M1 M3 Mj g + tot (X.F g (o + 1)).tail : Nat) : Int), af, KMc.mk (X.p g (o + 1)) n, KRs.mk vs ((b + nv M1 M3 Mj g + tot (X.F g (o + 1)).tail : Nat) : Int), rr, KRl.mk rl.labelAt rl.labelHeight ((lt - k : Nat) : Int), lt - k, true, ?_, ?_, rfl, by omega, Or.inl ⟨rfl, g, o + 1, b, R, _, ⟨hF, s2, s3, s4, s5, rfl, s7, ?_, fun k' hk' => s9 k' ?_, ?_⟩, rfl, rfl, rfl, rfl, rfl⟩⟩
      · unfold f_Ma_branch
        rw [et]
        simp only [jp]
        rw [if_pos (show (0 : Int) ≤ (o : Int) by omega)]
        simp only [if_pos (show (0 : Int) ≤ (o : Int) ∧ (o : Int) < 2000 by omega), Int.toNat_natCast]
        rw [if_pos c3, eB, if_pos (by omega), if_pos (by omega)]
        rfl
      · unfold f_Mo_branch
        simp only [jp]
        rw [if_pos (show R32 (rl.labelTop - 1) by omega), ei, if_pos (by omega), if_pos (by omega), Int.toNat_natCast, q1, if_pos u9, if_pos (by omega), if_pos (eb3.mpr c3), q2, u2]
        simp only [reduceIte, Bool.false_eq_true]
        rw [if_pos (by omega), if_pos (by omega), if_pos (by omega), u8, show ((lt - 1 - k : Nat) : Int) + 1 = ((lt - k : Nat) : Int) by omega, show X.p g o + 2 = X.p g o + 1 + 1 by omega]
      · show b + nv M1 M3 Mj g + tot _ ≤ 12096
        rw [List.length_append] at hh2
        show b + nv M1 M3 Mj g + (tot (X.F g (o + 1)).tail) ≤ 12096
        omega
      · have hk'' : k' < b + nv M1 M3 Mj g + tot (X.F g (o + 1)).tail := hk'
        rw [List.length_append] at hh2
        omega
      · cases R with
        | nil => exact s10
        | cons a R' => exact s10
    · have hlv : l = uT (C.extras o) := by rw [← hxl2, f2]; show (if C.ops o = 3 then 0 else uT (C.extras o)) = _; rw [if_neg c3]
      rw [hlv] at hz
      obtain ⟨p1, p2, p3⟩ := popO_live hz hty.2 hxl
      have hone : b + nv M1 M3 Mj g + tot (X.F g (o + 1)).tail + one (uT (C.extras o)) ≤ h' := by
        rw [hh2, List.length_append, p1]
        by_cases q : uT (C.extras o) = 0
        · rw [show one (uT (C.extras o)) = 0 from if_pos q]; omega
        · rw [show one (uT (C.extras o)) = 1 from if_neg q, if_neg q, List.length_cons]; omega
      have hval : uT (C.extras o) = 127 → R32 (st (h' - 1)).toInt := fun q => by
        rw [if_neg (show ¬ uT (C.extras o) = 0 by omega)] at p1
        rw [p1, List.cons_append] at v5 hh2
        have := v5.1 q
        rwa [show b + nv M1 M3 Mj g + (z.1 ++ flat R0).length = h' - 1 by rw [List.length_cons] at hh2; omega] at this
      generalize ht : uT (C.extras o) = t at *
      rw [u2] at q2
      rw [w7] at hQl v6 eB hone hQn q2 u3 hb9
      obtain ⟨y1, y2⟩ := pushA_live hty.2 (Live.cons.mp hQl).1
      have hst : ∀ k', k' < b + nv M1 M3 Mj g → stp st t (b + nv M1 M3 Mj g + tot (w :: R')) (st (h' - 1)) k' = st k' := fun k' hk' => stp_lo (by omega)
      have htot : tot (pushA t w :: R') = tot (w :: R') + one t := by
        show ((pushA t w).1 ++ flat R').length = (w.1 ++ flat R').length + one t
        rw [y2]
        by_cases q : t = 0
        · rw [if_pos q, show one t = 0 from if_pos q]; rfl
        · rw [if_neg q, show one t = 1 from if_neg q]; rfl
      have hvt : VT (stp st t (b + nv M1 M3 Mj g + tot (w :: R')) (st (h' - 1))) (b + nv M1 M3 Mj g) (flat (pushA t w :: R')) := by
        show VT _ _ ((pushA t w).1 ++ flat R')
        rw [y2]
        by_cases q : t = 0
        · rw [if_pos q, show stp st t (b + nv M1 M3 Mj g + tot (w :: R')) (st (h' - 1)) = st from if_pos q]; exact v6
        · rw [if_neg q, show stp st t (b + nv M1 M3 Mj g + tot (w :: R')) (st (h' - 1)) = vp_updL st (b + nv M1 M3 Mj g + tot (w :: R')) (st (h' - 1)) from if_neg q]
          exact VT.push v6 hval
      have hF := s1.jmp (i' := E + 1) (m := k + 1) (lt' := ((lt - 1 - k : Nat) : Int)) w8 (by omega) (by omega) (by rw [w6, f4]) (by omega) (Live.cons.mpr ⟨y1, (Live.cons.mp hQl).2⟩) hst hvt
      rw [htot, show b + nv M1 M3 Mj g + (tot (w :: R') + one t) = b + nv M1 M3 Mj g + tot (w :: R') + one t by omega] at hF
      refine ⟨KMa.mk sp 0 ((E + 1 : Nat) : Int), KAs.mk (stp st t (b + nv M1 M3 Mj g + tot (w :: R')) (st (h' - 1))) ((b + nv M1 M3 Mj g + tot (w :: R') + one t : Nat) : Int), af, KMc.mk (X.p g (E + 1)) n, KRs.mk (stp vs t (b + nv M1 M3 Mj g + tot (w :: R')) (st (h' - 1))) ((b + nv M1 M3 Mj g + tot (w :: R') + one t : Nat) : Int), rr, KRl.mk rl.labelAt rl.labelHeight ((lt - 1 - k : Nat) : Int), lt - (k + 1), true, ?_, ?_, rfl, by omega, Or.inl ⟨rfl, g, E + 1, b, R, _, ⟨hF, s2, s3, s4, s5, by show ((lt - 1 - k : Nat) : Int) = ((lt - (k + 1) : Nat) : Int); omega, s7, by omega, fun k' hk' => ?_, ?_⟩, rfl, rfl, rfl, rfl, rfl⟩⟩
      · unfold f_Ma_branch
        rw [et]
        simp only [jp]
        rw [if_pos (show (0 : Int) ≤ (o : Int) by omega)]
        simp only [if_pos (show (0 : Int) ≤ (o : Int) ∧ (o : Int) < 2000 by omega), Int.toNat_natCast]
        rw [if_neg c3, eB, if_pos (by omega), ← hty.1, cm_unwind hty.2 hone (by omega), obind_ret, w1, if_pos (by omega)]
        rfl
      · unfold f_Mo_branch
        simp only [jp]
        rw [if_pos (show R32 (rl.labelTop - 1) by omega), ei, if_pos (by omega), if_pos (by omega), Int.toNat_natCast, q1, if_pos u9, if_pos (by omega), if_neg (fun q => c3 (eb3.mp q)), q2, ebt, obind_ret, heo]
        simp only [reduceIte, Bool.false_eq_true]
        simp only [if_pos (show (0 : Int) ≤ ((lt - 1 - k : Nat) : Int) ∧ ((lt - 1 - k : Nat) : Int) < 24000 by omega), if_pos (show (0 : Int) ≤ X.p g o ∧ X.p g o < 2000 by omega), if_pos (show R32 (X.p g E + 1) by omega)]
        rw [← hpE]
        by_cases q : t = 0
        · have e64 : C.extras o = 64 := by rw [← hty.1, q]; rfl
          rw [if_pos e64, show stp vs t (b + nv M1 M3 Mj g + tot (w :: R')) (st (h' - 1)) = vs from if_pos q, show one t = 0 from if_pos q]
          rfl
        · have e64 : ¬ C.extras o = 64 := fun q2 => q (by rw [← ht, q2]; rfl)
          have o1 : one t = 1 := if_neg q
          rw [if_neg e64, rm_pop (by omega) (by omega), obind_ret]
          dsimp only
          rw [rm_push (by omega), if_pos (show b + nv M1 M3 Mj g + tot (w :: R') < 12096 by omega), obind2_ret, show stp vs t (b + nv M1 M3 Mj g + tot (w :: R')) (st (h' - 1)) = vp_updL vs (b + nv M1 M3 Mj g + tot (w :: R')) (st (h' - 1)) from if_neg q, o1, s9 (h' - 1) (by omega)]
      · by_cases q : t = 0
        · rw [show stp vs t (b + nv M1 M3 Mj g + tot (w :: R')) (st (h' - 1)) = vs from if_pos q, show stp st t (b + nv M1 M3 Mj g + tot (w :: R')) (st (h' - 1)) = st from if_pos q]
          exact s9 k' (by omega)
        · rw [show stp vs t (b + nv M1 M3 Mj g + tot (w :: R')) (st (h' - 1)) = vp_updL vs (b + nv M1 M3 Mj g + tot (w :: R')) (st (h' - 1)) from if_neg q, show stp st t (b + nv M1 M3 Mj g + tot (w :: R')) (st (h' - 1)) = vp_updL st (b + nv M1 M3 Mj g + tot (w :: R')) (st (h' - 1)) from if_neg q]
          exact ag_set s9 (show b + nv M1 M3 Mj g + tot (w :: R') + one t ≤ h by omega) hk'
      · cases R with
        | nil => exact s10
        | cons a R' => exact s10
end BRA

/-! RUN: br, br_if, return -/
section BRS
variable {fu g0 g i b lt h : Nat} {f : Nat → Int32} {n sp r : Int} {C : KCo} {M : KMe} {W1 : KW1} {W3 : KW3} {Wj : KWj} {W5 : KW5} {M1 : KM1} {Mp : KMp} {M3 : KM3} {Mj : KMj} {Ml : KMl} {M5 : KM5} {M6 : KM6} {ct : KCt} {X : SP} {R : List (Nat × Nat × Nat)} {af : KAf} {rr : KRr} {rl : KRl} {st vs : Nat → Int64} {mb : KMb} {ag : KAg} {my : KMy} {rg : KRg}
set_option maxRecDepth 20000 in
theorem sr_br {ma' : KMa} {as' : KAs} {af' : KAf} {mc' : KMc} {rs' : KRs} {rr' : KRr} {rl' : KRl} {lb : Nat} {goes : Bool} {Fc : Out Empty (KMb × KAg × KMa × KAs × KAf)} {Gr : Out (KRf × KMc × KMy × KRg × KRs × KRr × KRl) (KRf × KMc × KMy × KRg × KRs × KRr × KRl × Bool)} (hm : MR M6 mb ag my rg) (h1 : ma'.steps = sp) (h2 : lb ≤ lt) (h3 : (goes = true ∧ RI X M1 Mp M3 Mj Ml n g0 ma' as' af' mc' rs' rr' rl' lb) ∨ (goes = false ∧ ma'.reason = 0 ∧ af'.depth = 0 ∧ (res M1 M3 g0 ≠ 0 → as'.stack 0 = rs'.values 0))) (e1 : Fc = .ret (mb, ag, ma', as', af')) (e2 : Gr = .ret (r, mc', my, rg, rs', rr', rl', goes)) : SR X M1 Mp M3 Mj Ml M6 n g0 sp lt r Fc Gr := by
  rcases h3 with ⟨q1, q2⟩ | ⟨q1, q2, q3, q4⟩
  · subst q1
    exact Or.inl ⟨_, _, _, _, _, _, _, _, _, _, _, lb, e1, e2, h1, hm, q2, by omega⟩
  · subst q1
    exact Or.inr (Or.inl ⟨_, _, _, _, _, _, _, _, _, _, _, e1, e2, h1, hm, q2, q3, q4⟩)
set_option maxRecDepth 20000 in
theorem s_12 (hfu : 10 < fu) (hX : CX f n C M W1 W3 Wj W5 M1 Mp M3 Mj Ml M5 M6 ct X) (hS : StI X M1 Mp M3 Mj Ml g0 g i b R lt h af rr rl st vs) (hm : MR M6 mb ag my rg) (hi : i < X.e g) (h0 : 0 ≤ sp) (h1 : sp + 1 ≤ 100000) (ho : C.ops i = 12) : SR X M1 Mp M3 Mj Ml M6 n g0 (sp + 1) lt r (f_Ma_takeStep fu C ct W1 W3 Wj W5 mb ag (KMa.mk sp 0 ((i + 1 : Nat) : Int)) (KAs.mk st h) af (C.ops i) i) (f_Mo_step fu r (KMc.mk (X.p g i + 1) n) my rg (KRs.mk vs h) rr rl (KMt.mk f n) M1 M3 Mj M5 M (C.ops i) (X.p g i)) := by
  obtain ⟨x, R0, e1, e2, e3, e4⟩ := hS.1.vals
  obtain ⟨d1, d2, d3, d4, d5, d6, d7⟩ := hS.dec hX hi
  obtain ⟨⟨j1, j2, j3⟩, j4, j5⟩ := d7.2.1 (by omega)
  obtain ⟨u, hu⟩ := Int.eq_ofNat_of_zero_le j4
  have hn := hX.2.2.2.2.1
  have hG := hS.gf hX
  have hs : X.s g ≤ i := hS.1.2.1
  have hV := hG.2.2.2.2.2.2.2.2.2.2.2.2.2.2
  have hst := hV.2.1 i hs hi
  have htg := (hV.2.2.2 i hs hi).2.1 (Or.inl ho)
  rw [e1] at hst
  unfold stAt at hst
  rw [ho] at hst
  unfold stV at hst
  simp only [Int.reduceEq, reduceIte, or_self] at hst
  obtain ⟨l, q1, hst⟩ := obnd_some hst
  obtain ⟨z, q2, q3⟩ := omap_some hst
  rw [hu] at q1 htg
  rw [Int.toNat_natCast] at htg
  obtain ⟨ma', as', af', mc', rs', rr', rl', lb, goes, y1, y2, y3, y4, y5⟩ := br_both (sp := sp + 1) (r := r) (nx := ((i + 1 : Nat) : Int)) (c := X.p g (i + 1)) (x' := x) (l0 := []) (h' := h) hX hS e1 rfl rfl rfl q1 q2
  refine sr_br hm y3 y4 y5 ?_ ?_
  · rw [ho, tk_ctl h0 h1 (by decide)]
    unfold f_Ma_performControl
    simp only [jp, Int.reduceEq, reduceIte]
    rw [if_pos (by omega), Int.toNat_natCast, htg, y1, obind_ret, obind_ret]
  · rw [ho]
    unfold f_Mo_step
    simp only [jp, Int.reduceEq, reduceIte]
    rw [j3 fu r n n (by omega) d4 hn, obind2_ret, hu]
    dsimp only
    rw [y2, obind2_ret]
set_option maxRecDepth 20000 in
theorem s_13 (hfu : 10 < fu) (hX : CX f n C M W1 W3 Wj W5 M1 Mp M3 Mj Ml M5 M6 ct X) (hS : StI X M1 Mp M3 Mj Ml g0 g i b R lt h af rr rl st vs) (hm : MR M6 mb ag my rg) (hi : i < X.e g) (h0 : 0 ≤ sp) (h1 : sp + 1 ≤ 100000) (ho : C.ops i = 13) : SR X M1 Mp M3 Mj Ml M6 n g0 (sp + 1) lt r (f_Ma_takeStep fu C ct W1 W3 Wj W5 mb ag (KMa.mk sp 0 ((i + 1 : Nat) : Int)) (KAs.mk st h) af (C.ops i) i) (f_Mo_step fu r (KMc.mk (X.p g i + 1) n) my rg (KRs.mk vs h) rr rl (KMt.mk f n) M1 M3 Mj M5 M (C.ops i) (X.p g i)) := by
  obtain ⟨x, R0, e1, e2, e3, e4⟩ := hS.1.vals
  obtain ⟨d1, d2, d3, d4, d5, d6, d7⟩ := hS.dec hX hi
  obtain ⟨⟨j1, j2, j3⟩, j4, j5⟩ := d7.2.1 (by omega)
  obtain ⟨u, hu⟩ := Int.eq_ofNat_of_zero_le j4
  have hn := hX.2.2.2.2.1
  have hh := hS.2.2.2.2.2.2.2.1
  have ha := hS.2.2.2.2.2.2.2.2.1
  have hG := hS.gf hX
  have hs : X.s g ≤ i := hS.1.2.1
  have hV := hG.2.2.2.2.2.2.2.2.2.2.2.2.2.2
  have hst := hV.2.1 i hs hi
  have htg := (hV.2.2.2 i hs hi).2.1 (Or.inr ho)
  have hk := (hG.2.2.2.2.2.2.2.2.1.2.1 i hs hi).2.2.2.1 (by omega) (by omega) (by omega)
  rw [e1] at hst
  unfold stAt at hst
  rw [ho] at hst
  unfold stV at hst
  simp only [Int.reduceEq, reduceIte, or_self] at hst
  obtain ⟨l, q1, hst⟩ := obnd_some hst
  obtain ⟨y, q2, hst⟩ := obnd_some hst
  obtain ⟨z, q3, q4⟩ := omap_some hst
  rw [hu] at q1 htg
  rw [Int.toNat_natCast] at htg
  rw [e1] at e2 e3
  obtain ⟨k1, k2, k3, k4, k5⟩ := popA_live q2 (Live.cons.mp e2).1
  have hpos : 0 < h := by rw [e3, tot_cons, k1, List.length_cons]; omega
  have hL := LI.all hG.2.2.2.2.2.2.2.2.1 hV (i - X.s g) i (by omega) (by omega)
  have hty : Ty0 l := by
    obtain ⟨xk, f1, f2⟩ := omap_some q1
    rw [← f2]
    rw [e1] at hL
    cases ho2 : (X.k g i)[u]? with
    | none =>
      obtain ⟨xb, f3, f4⟩ := hL.bot
      have hlen := hL.len
      have : u = (X.k g i).length := by
        have := List.getElem?_eq_none_iff.mp ho2
        have := (List.getElem?_eq_some_iff.mp f1).1
        omega
      rw [← this] at f3
      rw [show (x :: R0)[(u : Int).toNat]? = (x :: R0)[u]? from rfl, f3] at f1
      rw [← Option.some.inj f1, f4]
      exact hX.1.rs hS.1.1
    | some o =>
      obtain ⟨xo, f3, f4, f5, f6, f7, f8, f9, f10⟩ := hL.get ho2
      rw [show (x :: R0)[(u : Int).toNat]? = (x :: R0)[u]? from rfl, f3] at f1
      rw [← Option.some.inj f1, f4]
      have := (rT_uT (at_opn hG f7 f8 f9).2.2.2.2.2.2.1).2
      show Ty0 (if C.ops o = 3 then 0 else uT (C.extras o))
      by_cases c : C.ops o = 3
      · rw [if_pos c]; exact Or.inl rfl
      · rw [if_neg c]; exact this
  obtain ⟨p1, p2, p3⟩ := popO_live q3 hty k4
  obtain ⟨m1, m2⟩ := pushA_live hty p2
  rw [← p1] at m2
  have er0 : ∀ (v : Int64), v = st (h - 1) → f_Mo_popValue (KRs.mk vs h) = .ret (KRs.mk vs ((h - 1 : Nat) : Int), v) := fun v hv => by rw [rm_pop hpos hh, hv, ha (h - 1) (by omega)]
  by_cases c : st (h - 1) = (0 : Int64)
  · refine sr_go (h' := h - [y.1].length) hS (hS.1.pop (l := [y.1]) e1 (by omega) (by omega) hk q4.symm m1 (by rw [k1, m2]; rfl)) (by omega) (fun k hk => ha k (by omega)) hm ?_ ?_
    · rw [ho, tk_ctl h0 h1 (by decide)]
      unfold f_Ma_performControl
      simp only [jp, Int.reduceEq, reduceIte]
      rw [cm_pop hpos hh, obind_ret]
      dsimp only
      rw [if_pos c, obind_ret]
      rfl
    · rw [ho]
      unfold f_Mo_step
      simp only [jp, Int.reduceEq, reduceIte]
      rw [j3 fu r n n (by omega) d4 hn, obind2_ret, er0 _ rfl, obind_ret]
      dsimp only
      rw [if_pos c]
      rfl
  · obtain ⟨ma', as', af', mc', rs', rr', rl', lb, goes, y1, y2, y3, y4, y5⟩ := br_both (sp := sp + 1) (r := r) (nx := ((i + 1 : Nat) : Int)) (c := X.p g (i + 1)) (x' := y.2) (l0 := [y.1]) (h' := h - 1) hX hS e1 k1 k5 rfl q1 q3
    refine sr_br hm y3 y4 y5 ?_ ?_
    · rw [ho, tk_ctl h0 h1 (by decide)]
      unfold f_Ma_performControl
      simp only [jp, Int.reduceEq, reduceIte]
      rw [cm_pop hpos hh, obind_ret]
      dsimp only
      rw [if_neg c, if_pos (by omega), Int.toNat_natCast, htg, y1, obind_ret, obind_ret]
    · rw [ho]
      unfold f_Mo_step
      simp only [jp, Int.reduceEq, reduceIte]
      rw [j3 fu r n n (by omega) d4 hn, obind2_ret, er0 _ rfl, obind_ret]
      dsimp only
      rw [if_neg c, hu, y2, obind2_ret]
      dsimp only
      cases goes with
      | true => rw [if_pos rfl]
      | false => rw [if_neg Bool.false_ne_true]
set_option maxRecDepth 20000 in
theorem s_15 (hX : CX f n C M W1 W3 Wj W5 M1 Mp M3 Mj Ml M5 M6 ct X) (hS : StI X M1 Mp M3 Mj Ml g0 g i b R lt h af rr rl st vs) (hm : MR M6 mb ag my rg) (hi : i < X.e g) (h0 : 0 ≤ sp) (h1 : sp + 1 ≤ 100000) (ho : C.ops i = 15) : SR X M1 Mp M3 Mj Ml M6 n g0 (sp + 1) lt r (f_Ma_takeStep fu C ct W1 W3 Wj W5 mb ag (KMa.mk sp 0 ((i + 1 : Nat) : Int)) (KAs.mk st h) af (C.ops i) i) (f_Mo_step fu r (KMc.mk (X.p g i + 1) n) my rg (KRs.mk vs h) rr rl (KMt.mk f n) M1 M3 Mj M5 M (C.ops i) (X.p g i)) := by
  obtain ⟨x, R0, e1, e2, e3, e4⟩ := hS.1.vals
  have hG := hS.gf hX
  have hs : X.s g ≤ i := hS.1.2.1
  have hV := hG.2.2.2.2.2.2.2.2.2.2.2.2.2.2
  have hst := hV.2.1 i hs hi
  rw [e1] at hst e2 e3 e4
  unfold stAt at hst
  rw [ho] at hst
  unfold stV at hst
  simp only [Int.reduceEq, reduceIte, or_self] at hst
  obtain ⟨z, q2, q3⟩ := omap_some hst
  have hrs := hX.1.rs hS.1.1
  obtain ⟨p1, p2, p3⟩ := popO_live q2 hrs (Live.cons.mp e2).1
  have hfl : flat (x :: R0) = x.1 ++ flat R0 := rfl
  have htt : tot (x :: R0) = (x.1 ++ flat R0).length := rfl
  have hone : b + one (res M1 M3 g) ≤ h := by
    by_cases q : res M1 M3 g = 0
    · rw [show one (res M1 M3 g) = 0 from if_pos q]; omega
    · rw [if_neg q] at p1
      rw [p1, List.cons_append, List.length_cons] at htt
      rw [show one (res M1 M3 g) = 1 from if_neg q]; omega
  have hval : res M1 M3 g = 127 → R32 (st (h - 1)).toInt := fun q => by
    rw [if_neg (show ¬ res M1 M3 g = 0 by omega)] at p1
    rw [p1, List.cons_append, List.length_cons] at htt
    rw [hfl, p1, List.cons_append] at e4
    have := e4.1 q
    rwa [show b + nv M1 M3 Mj g + (z.1 ++ flat R0).length = h - 1 by omega] at this
  obtain ⟨ma', as', af', mc', rs', rr', rl', lb, y1, y2, y3, y4, y5⟩ := lv_both (sp := sp + 1) (r := r) (nx := ((i + 1 : Nat) : Int)) (c := X.p g i + 1) (rl' := rl) (h' := h) hX hS ⟨rfl, rfl⟩ (Nat.le_refl _) hone hval
  have y6 : (decide (R ≠ []) = true ∧ RI X M1 Mp M3 Mj Ml n g0 ma' as' af' mc' rs' rr' rl' lb) ∨ (decide (R ≠ []) = false ∧ ma'.reason = 0 ∧ af'.depth = 0 ∧ (res M1 M3 g0 ≠ 0 → as'.stack 0 = rs'.values 0)) := by
    rcases y5 with ⟨y5, y6⟩ | ⟨y5, y6⟩
    · exact Or.inl ⟨decide_eq_true y5, y6⟩
    · exact Or.inr ⟨decide_eq_false (fun q => q y5), y6⟩
  refine sr_br hm y3 (Nat.le_of_lt y4) y6 ?_ ?_
  · rw [ho, tk_ctl h0 h1 (by decide)]
    unfold f_Ma_performControl
    simp only [jp, Int.reduceEq, reduceIte]
    rw [y1, obind_ret, obind_ret]
  · rw [ho]
    unfold f_Mo_step
    simp only [jp, Int.reduceEq, reduceIte]
    rw [y2, obind2_ret]
end BRS
