/-! RUN: variables are set -/
section VAS
variable {fu g0 g i b lt h : Nat} {f : Nat → Int32} {n sp r : Int} {C : KCo} {M : KMe} {W1 : KW1} {W3 : KW3} {Wj : KWj} {W5 : KW5} {M1 : KM1} {Mp : KMp} {M3 : KM3} {Mj : KMj} {Ml : KMl} {M5 : KM5} {M6 : KM6} {ct : KCt} {X : SP} {R : List (Nat × Nat × Nat)} {af : KAf} {rr : KRr} {rl : KRl} {st vs : Nat → Int64} {mb : KMb} {ag : KAg} {my : KMy} {rg : KRg}
set_option maxRecDepth 20000 in
/-- a variable of the innermost call gets the topmost value, that stays or goes -/
theorem FI.setl {u : Nat} {t : Int} {x y : Fr} {R0 : SS} (hF : FI X M1 Mp M3 Mj Ml af rr rl st ((g, i, b) :: R) 0 lt h) (hi : i < X.e g) (e1 : X.F g i = x :: R0) (e2 : X.F g (i + 1) = y :: R0) (hk : X.k g (i + 1) = X.k g i) (hq : locA M1 Mp M3 Mj Ml g u = some t) {r1 : List Int} (hx : x.1 = t :: r1) (hy : lv y) (hyx : y.1 = r1 ∨ y.1 = t :: r1) : FI X M1 Mp M3 Mj Ml af rr rl (vp_updL st (b + u) (st (h - 1))) ((g, i + 1, b) :: R) 0 lt (b + nv M1 M3 Mj g + tot (y :: R0)) ∧ h = b + nv M1 M3 Mj g + ((r1 ++ flat R0).length + 1) := by
  have hs : X.s g ≤ i := hF.2.1
  obtain ⟨x', R', q1, q2, q3, q4⟩ := hF.vals
  rw [e1] at q2 q3 q4
  have hul := locA_lt hq
  have hfl : flat (x :: R0) = t :: (r1 ++ flat R0) := by show x.1 ++ flat R0 = _; rw [hx, List.cons_append]
  have hh : h = b + nv M1 M3 Mj g + ((r1 ++ flat R0).length + 1) := by rw [q3]; show _ + (flat (x :: R0)).length = _; rw [hfl, List.length_cons]
  rw [hfl] at q4
  have hst : ∀ k, b + nv M1 M3 Mj g ≤ k → vp_updL st (b + u) (st (h - 1)) k = st k := fun k hk => updL_n (by omega)
  have q5 : VT (vp_updL st (b + u) (st (h - 1))) (b + nv M1 M3 Mj g) (t :: (r1 ++ flat R0)) := VT.cg _ (fun k _ hk => hst k hk) q4
  refine ⟨?_, hh⟩
  rw [← e2]
  refine FI.top e2 hF (by omega) (by omega) hk (by rw [e2]; exact Live.cons.mpr ⟨hy, (Live.cons.mp q2).2⟩) (fun k hk => updL_n (by omega)) (fun k hk => ?_) ?_
  · by_cases c : k = u
    · subst c
      rw [updL_s]
      have h9 : t = 127 := Option.some.inj (hq.symm.trans hk)
      have := q4.1 h9
      rwa [show b + nv M1 M3 Mj g + (r1 ++ flat R0).length = h - 1 by omega] at this
    · rw [updL_n (by omega)]; exact hF.2.2.2.2.2.2.2.2.1 k hk
  · rw [e2]
    show VT _ _ (y.1 ++ flat R0)
    rcases hyx with c | c
    · rw [c]; exact q5.2
    · rw [c]; exact q5
set_option maxRecDepth 20000 in
theorem ag_set {u k h' : Nat} {v : Int64} (ha : ∀ k, k < h → vs k = st k) (hh : h' ≤ h) (hk : k < h') : vp_updL vs u v k = vp_updL st u v k := by
  by_cases c : k = u
  · rw [c, updL_s, updL_s]
  · rw [updL_n c, updL_n c]; exact ha k (by omega)
set_option maxRecDepth 20000 in
theorem s_33 (hfu : 10 < fu) (hX : CX f n C M W1 W3 Wj W5 M1 Mp M3 Mj Ml M5 M6 ct X) (hS : StI X M1 Mp M3 Mj Ml g0 g i b R lt h af rr rl st vs) (hm : MR M6 mb ag my rg) (hi : i < X.e g) (h0 : 0 ≤ sp) (h1 : sp + 1 ≤ 100000) (ho : C.ops i = 33) : SR X M1 Mp M3 Mj Ml M6 n g0 (sp + 1) lt r (f_Ma_takeStep fu C ct W1 W3 Wj W5 mb ag (KMa.mk sp 0 ((i + 1 : Nat) : Int)) (KAs.mk st h) af (C.ops i) i) (f_Mo_step fu r (KMc.mk (X.p g i + 1) n) my rg (KRs.mk vs h) rr rl (KMt.mk f n) M1 M3 Mj M5 M (C.ops i) (X.p g i)) := by
  obtain ⟨x, y, R0, e1, e2, e3, e4, e5, e6, e7⟩ := hS.op hX hi (by omega)
  obtain ⟨d1, d2, d3, d4, d5, d6, d7⟩ := hS.dec hX hi
  obtain ⟨⟨j1, j2, j3⟩, j4, j5⟩ := d7.2.1 (by omega)
  obtain ⟨u, hu⟩ := Int.eq_ofNat_of_zero_le j4
  have hn := hX.2.2.2.2.1
  have hh := hS.2.2.2.2.2.2.2.1
  have ha := hS.2.2.2.2.2.2.2.2.1
  obtain ⟨w1, w2, w3⟩ := hS.fb
  rw [ho] at e3; unfold opF at e3
  simp only [Int.reduceEq, reduceIte] at e3
  obtain ⟨t, q1, e3⟩ := obnd_some e3
  rw [hu] at q1
  obtain ⟨z, q2, q3⟩ := omap_some e3
  have hul := locA_lt q1
  have hty := locA_t2 hX.1 hS.1.1 (hS.gf hX).2.2.2.2.2.2.2.2.2.2.2.2.2.1 q1
  obtain ⟨k1, k2, k3, k4, k5⟩ := popA_live q2 e4
  rw [k2 (by omega)] at k1
  subst q3
  obtain ⟨f1, f2⟩ := hS.1.setl hi e1 e2 e5 q1 k1 k4 (Or.inl rfl)
  have hlen : b + nv M1 M3 Mj g + tot (z.2 :: R0) = h - 1 := by rw [f2]; show _ + (z.2.1 ++ flat R0).length = _; omega
  rw [hlen] at f1
  refine sr_go (vs' := vp_updL vs (b + u) (st (h - 1))) hS f1 (by omega) (fun k hk => ag_set ha (Nat.sub_le _ 1) hk) hm ?_ ?_
  · rw [ho, tk_var h0 h1 (by decide) (by decide) d1, v32 j4 j5, hu]
    unfold f_Ma_performVariable
    simp only [jp, Int.reduceEq, reduceIte]
    rw [hS.2.2.1, if_pos (show R32 ((b : Int) + u) by omega), cm_pop (by omega) hh, obind_ret, if_pos (by omega), show ((b : Int) + u).toNat = b + u by omega]
    rfl
  · rw [ho]
    unfold f_Mo_step
    simp only [jp, Int.reduceEq, reduceIte]
    rw [w1, if_pos (show R32 (R.length : Int) by omega), if_pos (by omega), j3 fu r n n (by omega) d4 hn, obind2_ret, hu]
    dsimp only
    rw [Int.toNat_natCast, w3, if_pos (show R32 ((b : Int) + u) by omega), rm_pop (by omega) hh, obind_ret, if_pos (by omega), show ((b : Int) + u).toNat = b + u by omega, ha (h - 1) (by omega)]
set_option maxRecDepth 20000 in
theorem s_34 (hfu : 10 < fu) (hX : CX f n C M W1 W3 Wj W5 M1 Mp M3 Mj Ml M5 M6 ct X) (hS : StI X M1 Mp M3 Mj Ml g0 g i b R lt h af rr rl st vs) (hm : MR M6 mb ag my rg) (hi : i < X.e g) (h0 : 0 ≤ sp) (h1 : sp + 1 ≤ 100000) (ho : C.ops i = 34) : SR X M1 Mp M3 Mj Ml M6 n g0 (sp + 1) lt r (f_Ma_takeStep fu C ct W1 W3 Wj W5 mb ag (KMa.mk sp 0 ((i + 1 : Nat) : Int)) (KAs.mk st h) af (C.ops i) i) (f_Mo_step fu r (KMc.mk (X.p g i + 1) n) my rg (KRs.mk vs h) rr rl (KMt.mk f n) M1 M3 Mj M5 M (C.ops i) (X.p g i)) := by
  obtain ⟨x, y, R0, e1, e2, e3, e4, e5, e6, e7⟩ := hS.op hX hi (by omega)
  obtain ⟨d1, d2, d3, d4, d5, d6, d7⟩ := hS.dec hX hi
  obtain ⟨⟨j1, j2, j3⟩, j4, j5⟩ := d7.2.1 (by omega)
  obtain ⟨u, hu⟩ := Int.eq_ofNat_of_zero_le j4
  have hn := hX.2.2.2.2.1
  have hh := hS.2.2.2.2.2.2.2.1
  have ha := hS.2.2.2.2.2.2.2.2.1
  obtain ⟨w1, w2, w3⟩ := hS.fb
  rw [ho] at e3; unfold opF at e3
  simp only [Int.reduceEq, reduceIte] at e3
  obtain ⟨t, q1, e3⟩ := obnd_some e3
  rw [hu] at q1
  obtain ⟨z, q2, q3⟩ := omap_some e3
  have hul := locA_lt q1
  have hty := locA_t2 hX.1 hS.1.1 (hS.gf hX).2.2.2.2.2.2.2.2.2.2.2.2.2.1 q1
  obtain ⟨k1, k2, k3, k4, k5⟩ := popA_live q2 e4
  rw [k2 (by omega)] at k1
  obtain ⟨y1, y2⟩ := pushA_live (t := t) (x := z.2) (by omega) k4
  rw [q3] at y1 y2
  rw [if_neg (show ¬ t = 0 by omega)] at y2
  obtain ⟨f1, f2⟩ := hS.1.setl hi e1 e2 e5 q1 k1 y1 (Or.inr y2)
  have hlen : b + nv M1 M3 Mj g + tot (y :: R0) = h := by rw [f2]; show _ + (y.1 ++ flat R0).length = _; rw [y2, List.cons_append, List.length_cons]
  rw [hlen] at f1
  refine sr_go (vs' := vp_updL vs (b + u) (st (h - 1))) hS f1 hh (fun k hk => ag_set ha (Nat.le_refl _) hk) hm ?_ ?_
  · rw [ho, tk_var h0 h1 (by decide) (by decide) d1, v32 j4 j5, hu]
    unfold f_Ma_performVariable
    simp only [jp, Int.reduceEq, reduceIte]
    have e : (KAs.mk st (h : Int)).height - 1 = ((h - 1 : Nat) : Int) := by show (h : Int) - 1 = _; omega
    rw [hS.2.2.1, if_pos (show R32 ((b : Int) + u) by omega), e, if_pos (by omega), if_pos (by omega), if_pos (by omega), show ((b : Int) + u).toNat = b + u by omega, Int.toNat_natCast]
    rfl
  · rw [ho]
    unfold f_Mo_step
    simp only [jp, Int.reduceEq, reduceIte]
    have e : (KRs.mk vs (h : Int)).valueTop - 1 = ((h - 1 : Nat) : Int) := by show (h : Int) - 1 = _; omega
    rw [w1, if_pos (show R32 (R.length : Int) by omega), if_pos (by omega), j3 fu r n n (by omega) d4 hn, obind2_ret, hu]
    dsimp only
    rw [Int.toNat_natCast, w3, if_pos (show R32 ((b : Int) + u) by omega), e, if_pos (by omega), if_pos (by omega), if_pos (by omega), show ((b : Int) + u).toNat = b + u by omega, Int.toNat_natCast, show (KRs.mk vs (h : Int)).values (h - 1) = st (h - 1) from ha (h - 1) (by omega)] <;> rfl
set_option maxRecDepth 20000 in
theorem s_35 (hfu : 10 < fu) (hX : CX f n C M W1 W3 Wj W5 M1 Mp M3 Mj Ml M5 M6 ct X) (hS : StI X M1 Mp M3 Mj Ml g0 g i b R lt h af rr rl st vs) (hm : MR M6 mb ag my rg) (hi : i < X.e g) (h0 : 0 ≤ sp) (h1 : sp + 1 ≤ 100000) (ho : C.ops i = 35) : SR X M1 Mp M3 Mj Ml M6 n g0 (sp + 1) lt r (f_Ma_takeStep fu C ct W1 W3 Wj W5 mb ag (KMa.mk sp 0 ((i + 1 : Nat) : Int)) (KAs.mk st h) af (C.ops i) i) (f_Mo_step fu r (KMc.mk (X.p g i + 1) n) my rg (KRs.mk vs h) rr rl (KMt.mk f n) M1 M3 Mj M5 M (C.ops i) (X.p g i)) := by
  obtain ⟨x, y, R0, e1, e2, e3, e4, e5, e6, e7⟩ := hS.op hX hi (by omega)
  obtain ⟨d1, d2, d3, d4, d5, d6, d7⟩ := hS.dec hX hi
  obtain ⟨⟨j1, j2, j3⟩, j4, j5⟩ := d7.2.1 (by omega)
  obtain ⟨u, hu⟩ := Int.eq_ofNat_of_zero_le j4
  have hn := hX.2.2.2.2.1
  obtain ⟨g1, g2, g3⟩ := hX.2.2.2.1
  rw [ho] at e3; unfold opF at e3
  simp only [Int.reduceEq, reduceIte] at e3
  rw [hu, Int.toNat_natCast] at e3
  obtain ⟨q1, e3⟩ := ite_some e3
  have q2 := Option.some.inj e3
  have hty := g3 u q1
  obtain ⟨y1, y2⟩ := pushA_live (t := M6.globalTypes u) (x := x) (by omega) e4
  rw [q2] at y1 y2
  rw [if_neg (show ¬ M6.globalTypes u = 0 by omega)] at y2
  have hgl := hm.2.2.2.2.1 u (by omega)
  refine sr_push (h' := h) (l := []) (l' := x.1) (t := M6.globalTypes u) (v := ag.globals u) (v' := rg.globals u) hS e1 hi e5 e2 y1 rfl y2 rfl (fun q => by rw [hgl]; exact hm.2.2.2.2.2.1 u q1 q) hgl.symm rfl hm ?_ ?_
  · rw [ho, tk_var h0 h1 (by decide) (by decide) d1, v32 j4 j5, hu]
    unfold f_Ma_performVariable
    simp only [jp, Int.reduceEq, reduceIte]
    rw [if_pos (by omega), Int.toNat_natCast, cm_push]
    by_cases c : h < 12096
    · simp only [if_pos c, obind_ret]
    · simp only [if_neg c, obind_ret]
  · rw [ho]
    unfold f_Mo_step
    simp only [jp, Int.reduceEq, reduceIte]
    rw [j3 fu r n n (by omega) d4 hn, obind2_ret, hu]
    dsimp only
    rw [if_pos (by omega), Int.toNat_natCast] <;> rfl
set_option maxRecDepth 20000 in
theorem s_36 (hfu : 10 < fu) (hX : CX f n C M W1 W3 Wj W5 M1 Mp M3 Mj Ml M5 M6 ct X) (hS : StI X M1 Mp M3 Mj Ml g0 g i b R lt h af rr rl st vs) (hm : MR M6 mb ag my rg) (hi : i < X.e g) (h0 : 0 ≤ sp) (h1 : sp + 1 ≤ 100000) (ho : C.ops i = 36) : SR X M1 Mp M3 Mj Ml M6 n g0 (sp + 1) lt r (f_Ma_takeStep fu C ct W1 W3 Wj W5 mb ag (KMa.mk sp 0 ((i + 1 : Nat) : Int)) (KAs.mk st h) af (C.ops i) i) (f_Mo_step fu r (KMc.mk (X.p g i + 1) n) my rg (KRs.mk vs h) rr rl (KMt.mk f n) M1 M3 Mj M5 M (C.ops i) (X.p g i)) := by
  obtain ⟨x, y, R0, e1, e2, e3, e4, e5, e6, e7⟩ := hS.op hX hi (by omega)
  obtain ⟨d1, d2, d3, d4, d5, d6, d7⟩ := hS.dec hX hi
  obtain ⟨⟨j1, j2, j3⟩, j4, j5⟩ := d7.2.1 (by omega)
  obtain ⟨x', R', v1, v2, v3, v4⟩ := hS.1.vals
  obtain ⟨u, hu⟩ := Int.eq_ofNat_of_zero_le j4
  have hn := hX.2.2.2.2.1
  have hh := hS.2.2.2.2.2.2.2.1
  have ha := hS.2.2.2.2.2.2.2.2.1
  obtain ⟨g1, g2, g3⟩ := hX.2.2.2.1
  rw [ho] at e3; unfold opF at e3
  simp only [Int.reduceEq, reduceIte] at e3
  rw [hu, Int.toNat_natCast] at e3
  obtain ⟨q1, e3⟩ := ite_some e3
  obtain ⟨z, q2, q3⟩ := omap_some e3
  have hty := g3 u q1.1
  obtain ⟨k1, k2, k3, k4, k5⟩ := popA_live q2 e4
  rw [k2 (by omega)] at k1
  subst q3
  have hfl : flat (x :: R0) = M6.globalTypes u :: (z.2.1 ++ flat R0) := by show x.1 ++ flat R0 = _; rw [k1, List.cons_append]
  have hlen : h = b + nv M1 M3 Mj g + ((z.2.1 ++ flat R0).length + 1) := by rw [e7]; show _ + (flat (x :: R0)).length = _; rw [hfl, List.length_cons]
  rw [e1, hfl] at v4
  have hv : M6.globalTypes u = 127 → R32 (st (h - 1)).toInt := fun q => by
    have := v4.1 q
    rwa [show b + nv M1 M3 Mj g + (z.2.1 ++ flat R0).length = h - 1 by omega] at this
  obtain ⟨m1, m2, m3, m4, m5, m6, m7⟩ := hm
  have hm' : MR M6 mb (KAg.mk ag.written ag.pages (vp_updL ag.globals u (st (h - 1)))) my (KRg.mk rg.pages (vp_updL rg.globals u (st (h - 1)))) := by
    refine ⟨m1, m2, m3, m4, fun k hk => ?_, fun k hk hq => ?_, m7⟩
    · show vp_updL ag.globals u _ k = vp_updL rg.globals u _ k
      by_cases c : k = u
      · rw [c, updL_s, updL_s]
      · rw [updL_n c, updL_n c]; exact m5 k hk
    · show R32 (vp_updL rg.globals u _ k).toInt
      by_cases c : k = u
      · rw [c, updL_s]; exact hv (c ▸ hq)
      · rw [updL_n c]; exact m6 k hk hq
  refine sr_go (h' := h - [M6.globalTypes u].length) hS (hS.1.pop (l := [M6.globalTypes u]) e1 (by omega) (by omega) e5 e2 k4 k1) (by omega) (fun k hk => ha k (by omega)) hm' ?_ ?_
  · rw [ho, tk_var h0 h1 (by decide) (by decide) d1, v32 j4 j5, hu]
    unfold f_Ma_performVariable
    simp only [jp, Int.reduceEq, reduceIte]
    rw [cm_pop (by omega) hh, obind_ret, if_pos (by omega), Int.toNat_natCast]
    rfl
  · rw [ho]
    unfold f_Mo_step
    simp only [jp, Int.reduceEq, reduceIte]
    rw [j3 fu r n n (by omega) d4 hn, obind2_ret, rm_pop (by omega) hh, obind_ret, hu]
    dsimp only
    rw [if_pos (by omega), Int.toNat_natCast, ha (h - 1) (by omega)]
    rfl
end VAS
