/-! RUN: drop, select, variables -/
section VAR
variable {fu g0 g i b lt h : Nat} {f : Nat → Int32} {n sp r : Int} {C : KCo} {M : KMe} {W1 : KW1} {W3 : KW3} {Wj : KWj} {W5 : KW5} {M1 : KM1} {Mp : KMp} {M3 : KM3} {Mj : KMj} {Ml : KMl} {M5 : KM5} {M6 : KM6} {ct : KCt} {X : SP} {R : List (Nat × Nat × Nat)} {af : KAf} {rr : KRr} {rl : KRl} {st vs : Nat → Int64} {mb : KMb} {ag : KAg} {my : KMy} {rg : KRg}
set_option maxRecDepth 20000 in
theorem locA_t2 (hM : MOk W1 W3 M1 Mp M3) (hg : (g : Int) < M3.functions) (hLo : LOk Wj Mj Ml g) {u : Nat} {t : Int} (h : locA M1 Mp M3 Mj Ml g u = some t) : t = 127 ∨ t = 126 := by
  unfold locA at h
  obtain ⟨h1, h2⟩ := ite_some h
  have h3 := Option.some.inj h2
  by_cases c : (u : Int) < pcn M1 M3 g
  · rw [if_pos c, Int.toNat_natCast] at h3
    rw [← h3]; exact (hM.pt hg c).2
  · rw [if_neg c] at h3
    rw [← h3]; exact (hLo.2.2.2 _ (by omega)).2
set_option maxRecDepth 20000 in
theorem s_26 (hX : CX f n C M W1 W3 Wj W5 M1 Mp M3 Mj Ml M5 M6 ct X) (hS : StI X M1 Mp M3 Mj Ml g0 g i b R lt h af rr rl st vs) (hm : MR M6 mb ag my rg) (hi : i < X.e g) (h0 : 0 ≤ sp) (h1 : sp + 1 ≤ 100000) (ho : C.ops i = 26) : SR X M1 Mp M3 Mj Ml M6 n g0 (sp + 1) lt r (f_Ma_takeStep fu C ct W1 W3 Wj W5 mb ag (KMa.mk sp 0 ((i + 1 : Nat) : Int)) (KAs.mk st h) af (C.ops i) i) (f_Mo_step fu r (KMc.mk (X.p g i + 1) n) my rg (KRs.mk vs h) rr rl (KMt.mk f n) M1 M3 Mj M5 M (C.ops i) (X.p g i)) := by
  obtain ⟨x, y, R0, e1, e2, e3, e4, e5, e6, e7⟩ := hS.op hX hi (by omega)
  obtain ⟨d1, d2, d3, d4, d5, d6, d7⟩ := hS.dec hX hi
  have hp : X.p g (i + 1) = X.p g i + 1 := d7.2.2.2.2.2.2.2 (by omega)
  have hh := hS.2.2.2.2.2.2.2.1
  have ha := hS.2.2.2.2.2.2.2.2.1
  rw [ho] at e3; unfold opF at e3
  simp only [Int.reduceEq, reduceIte] at e3
  obtain ⟨z, q1, q2⟩ := omap_some e3
  obtain ⟨k1, k2, k3, k4, k5⟩ := popA_live q1 e4
  subst q2
  have hpos : 0 < h := by rw [e7, tot_cons, k1, List.length_cons]; omega
  refine sr_go (h' := h - [z.1].length) hS (hS.1.pop (l := [z.1]) e1 (by omega) (by omega) e5 e2 k4 k1) (by omega) (fun k hk => ha k (by omega)) hm ?_ ?_
  · rw [ho, tk_var h0 h1 (by decide) (by decide) d1]
    unfold f_Ma_performVariable
    simp only [jp, Int.reduceEq, reduceIte]
    rw [cm_pop hpos hh, obind_ret, obind_ret]
    rfl
  · rw [ho, hp]
    unfold f_Mo_step
    simp only [jp, Int.reduceEq, reduceIte]
    have e : (KRs.mk vs (h : Int)).valueTop - 1 = ((h - 1 : Nat) : Int) := by show (h : Int) - 1 = _; omega
    rw [e, if_pos (by omega)]
    rfl
set_option maxRecDepth 20000 in
theorem s_27 (hX : CX f n C M W1 W3 Wj W5 M1 Mp M3 Mj Ml M5 M6 ct X) (hS : StI X M1 Mp M3 Mj Ml g0 g i b R lt h af rr rl st vs) (hm : MR M6 mb ag my rg) (hi : i < X.e g) (h0 : 0 ≤ sp) (h1 : sp + 1 ≤ 100000) (ho : C.ops i = 27) : SR X M1 Mp M3 Mj Ml M6 n g0 (sp + 1) lt r (f_Ma_takeStep fu C ct W1 W3 Wj W5 mb ag (KMa.mk sp 0 ((i + 1 : Nat) : Int)) (KAs.mk st h) af (C.ops i) i) (f_Mo_step fu r (KMc.mk (X.p g i + 1) n) my rg (KRs.mk vs h) rr rl (KMt.mk f n) M1 M3 Mj M5 M (C.ops i) (X.p g i)) := by
  obtain ⟨x, y, R0, e1, e2, e3, e4, e5, e6, e7⟩ := hS.op hX hi (by omega)
  obtain ⟨d1, d2, d3, d4, d5, d6, d7⟩ := hS.dec hX hi
  obtain ⟨x', R', v1, v2, v3, v4⟩ := hS.1.vals
  have hp : X.p g (i + 1) = X.p g i + 1 := d7.2.2.2.2.2.2.2 (by omega)
  have hh := hS.2.2.2.2.2.2.2.1
  have ha := hS.2.2.2.2.2.2.2.2.1
  rw [ho] at e3; unfold opF selA at e3
  simp only [Int.reduceEq, reduceIte] at e3
  obtain ⟨p1, a1, e3⟩ := obnd_some e3
  obtain ⟨p2, a2, e3⟩ := obnd_some e3
  obtain ⟨p3, a3, e3⟩ := obnd_some e3
  obtain ⟨a4, e3⟩ := ite_some e3
  obtain ⟨k1, k2, k3, k4, k5⟩ := popA_live a1 e4
  obtain ⟨l1, l2, l3, l4, l5⟩ := popA_live a2 k4
  obtain ⟨m1, m2, m3, m4, m5⟩ := popA_live a3 l4
  have hpq : p2.1 = p3.1 := by omega
  rw [if_neg (show ¬ p2.1 = -1 by omega)] at e3
  have hy := Option.some.inj e3
  have hx : x.1 = [p1.1, p2.1, p3.1] ++ p3.2.1 := by rw [k1, l1, m1]; rfl
  have hfl : flat (x :: R0) = p1.1 :: p2.1 :: p3.1 :: (p3.2.1 ++ flat R0) := by show x.1 ++ flat R0 = _; rw [hx]; rfl
  have hlen : h = b + nv M1 M3 Mj g + ((p3.2.1 ++ flat R0).length + 3) := by rw [e7]; show _ + (flat (x :: R0)).length = _; rw [hfl]; rfl
  rw [e1, hfl] at v4
  have hy1 : lv y := by
    rw [← hy]
    refine ⟨m4.1, fun t ht => ?_⟩
    rcases List.mem_cons.mp ht with q | q
    · rw [q]; exact l3
    · exact m4.2 t q
  have t2 : p2.1 = 127 → R32 (st (h - 2)).toInt := fun q => by
    have := v4.2.1 q
    rwa [show b + nv M1 M3 Mj g + (p3.1 :: (p3.2.1 ++ flat R0)).length = h - 2 by rw [List.length_cons]; omega] at this
  have t3 : p2.1 = 127 → R32 (st (h - 3)).toInt := fun q => by
    have := v4.2.2.1 (by omega)
    rwa [show b + nv M1 M3 Mj g + (p3.2.1 ++ flat R0).length = h - 3 by omega] at this
  have hF : ∀ v : Int64, (p2.1 = 127 → R32 v.toInt) → FI X M1 Mp M3 Mj Ml af rr rl (vp_updL st (h - 3) v) ((g, i + 1, b) :: R) 0 lt (h - 3 + 1) := fun v hv => hS.1.pp (i' := i + 1) (l := [p1.1, p2.1, p3.1]) (v := v) e1 (by omega) (by omega) e5 e2 hy1 hx (show y.1 = p2.1 :: p3.2.1 by rw [← hy]) hv
  have ec : ∀ v, (if st (h - 1) = (0 : Int64) then st (h - 2) else st (h - 3)) = v → f_Ma_takeStep fu C ct W1 W3 Wj W5 mb ag (KMa.mk sp 0 ((i + 1 : Nat) : Int)) (KAs.mk st h) af (C.ops i) i = .ret (mb, ag, KMa.mk (sp + 1) 0 ((i + 1 : Nat) : Int), KAs.mk (vp_updL st (h - 3) v) ((h - 3 + 1 : Nat) : Int), af) := by
    intro v hv
    rw [ho, tk_var h0 h1 (by decide) (by decide) d1]
    unfold f_Ma_performVariable f_Ma_select
    simp only [jp_ite]
    simp only [jp, Int.reduceEq, reduceIte]
    rw [cm_pop (by omega) hh, obind_ret]
    dsimp only
    rw [cm_pop (by omega) (by omega), obind_ret]
    dsimp only
    rw [cm_pop (by omega) (by omega), obind_ret]
    dsimp only
    rw [show h - 1 - 1 = h - 2 by omega, show h - 2 - 1 = h - 3 by omega, hv, cm_push, if_pos (by omega)]
    rfl
  have er : f_Mo_step fu r (KMc.mk (X.p g i + 1) n) my rg (KRs.mk vs h) rr rl (KMt.mk f n) M1 M3 Mj M5 M (C.ops i) (X.p g i) = .ret (r, KMc.mk (X.p g (i + 1)) n, my, rg, KRs.mk (if st (h - 1) = (0 : Int64) then vp_updL vs (h - 3) (vs (h - 2)) else vs) ((h - 3 + 1 : Nat) : Int), rr, rl, true) := by
    rw [ho, hp]
    unfold f_Mo_step
    simp only [jp, Int.reduceEq, reduceIte]
    rw [rm_pop (by omega) hh, obind_ret]
    dsimp only
    rw [ha (h - 1) (by omega), rm_pop (by omega) (by omega)]
    simp only [obind_ret, reduceIte, Bool.false_eq_true]
    rw [show h - 1 - 1 = h - 2 by omega]
    have e : ((h - 2 : Nat) : Int) - 1 = ((h - 3 : Nat) : Int) := by omega
    rw [e, if_pos (show R32 ((h - 3 : Nat) : Int) by omega), if_pos (show (0 : Int) ≤ ((h - 3 : Nat) : Int) ∧ ((h - 3 : Nat) : Int) < 12097 by omega), Int.toNat_natCast, show h - 3 + 1 = h - 2 by omega]
    by_cases c : st (h - 1) = (0 : Int64)
    · rw [if_pos c, if_pos c]
    · rw [if_neg c, if_neg c]
  by_cases c : st (h - 1) = (0 : Int64)
  · have ec' := ec _ (if_pos c)
    rw [if_pos c] at er
    refine sr_go (h' := h - 3 + 1) hS (hF _ t2) (by omega) (fun k hk => ?_) hm ec' er
    by_cases ck : k = h - 3
    · rw [ck, updL_s, updL_s]; exact ha _ (by omega)
    · rw [updL_n ck, updL_n ck]; exact ha k (by omega)
  · have ec' := ec _ (if_neg c)
    rw [if_neg c] at er
    refine sr_go (h' := h - 3 + 1) hS (hF _ t3) (by omega) (fun k hk => ?_) hm ec' er
    by_cases ck : k = h - 3
    · rw [ck, updL_s]; exact ha _ (by omega)
    · rw [updL_n ck]; exact ha k (by omega)
set_option maxRecDepth 20000 in
theorem StI.fb (hS : StI X M1 Mp M3 Mj Ml g0 g i b R lt h af rr rl st vs) : rr.frames - 1 = (R.length : Int) ∧ R.length < 100 ∧ rr.frameBase R.length = b := by
  have := hS.2.2.2.2.1
  exact ⟨by omega, hS.2.2.2.2.2.2.1, hS.1.2.2.2.2.2.2.1⟩
set_option maxRecDepth 20000 in
theorem s_32 (hfu : 10 < fu) (hX : CX f n C M W1 W3 Wj W5 M1 Mp M3 Mj Ml M5 M6 ct X) (hS : StI X M1 Mp M3 Mj Ml g0 g i b R lt h af rr rl st vs) (hm : MR M6 mb ag my rg) (hi : i < X.e g) (h0 : 0 ≤ sp) (h1 : sp + 1 ≤ 100000) (ho : C.ops i = 32) : SR X M1 Mp M3 Mj Ml M6 n g0 (sp + 1) lt r (f_Ma_takeStep fu C ct W1 W3 Wj W5 mb ag (KMa.mk sp 0 ((i + 1 : Nat) : Int)) (KAs.mk st h) af (C.ops i) i) (f_Mo_step fu r (KMc.mk (X.p g i + 1) n) my rg (KRs.mk vs h) rr rl (KMt.mk f n) M1 M3 Mj M5 M (C.ops i) (X.p g i)) := by
  obtain ⟨x, y, R0, e1, e2, e3, e4, e5, e6, e7⟩ := hS.op hX hi (by omega)
  obtain ⟨d1, d2, d3, d4, d5, d6, d7⟩ := hS.dec hX hi
  obtain ⟨⟨j1, j2, j3⟩, j4, j5⟩ := d7.2.1 (by omega)
  obtain ⟨u, hu⟩ := Int.eq_ofNat_of_zero_le j4
  have hn := hX.2.2.2.2.1
  have hh := hS.2.2.2.2.2.2.2.1
  have ha := hS.2.2.2.2.2.2.2.2.1
  obtain ⟨w1, w2, w3⟩ := hS.fb
  rw [ho] at e3; unfold opF at e3
  simp only [Int.reduceEq, reduceIte] at e3
  obtain ⟨t, q1, q2⟩ := omap_some e3
  rw [hu] at q1
  have hul := locA_lt q1
  have hty := locA_t2 hX.1 hS.1.1 (hS.gf hX).2.2.2.2.2.2.2.2.2.2.2.2.2.1 q1
  obtain ⟨y1, y2⟩ := pushA_live (t := t) (x := x) (by omega) e4
  rw [q2] at y1 y2
  rw [if_neg (show ¬ t = 0 by omega)] at y2
  refine sr_push (h' := h) (l := []) (l' := x.1) (t := t) (v := st (b + u)) (v' := vs (b + u)) hS e1 hi e5 e2 y1 rfl y2 rfl (fun q => hS.1.2.2.2.2.2.2.2.2.1 u (q ▸ q1)) (ha _ (by omega)) rfl hm ?_ ?_
  · rw [ho, tk_var h0 h1 (by decide) (by decide) d1, v32 j4 j5, hu]
    unfold f_Ma_performVariable
    simp only [jp, Int.reduceEq, reduceIte]
    rw [hS.2.2.1, if_pos (show R32 ((b : Int) + u) by omega), if_pos (by omega), show ((b : Int) + u).toNat = b + u by omega]
    show obind (obind (f_Ma_push _ (KAs.mk st h) (st (b + u))) _) _ = _
    rw [cm_push]
    by_cases c : h < 12096
    · simp only [if_pos c, obind_ret]
    · simp only [if_neg c, obind_ret]
  · rw [ho]
    unfold f_Mo_step
    simp only [jp, Int.reduceEq, reduceIte]
    rw [w1, if_pos (show R32 (R.length : Int) by omega), if_pos (by omega), j3 fu r n n (by omega) d4 hn, obind2_ret, hu]
    dsimp only
    rw [Int.toNat_natCast, w3, if_pos (show R32 ((b : Int) + u) by omega), if_pos (by omega), show ((b : Int) + u).toNat = b + u by omega] <;> rfl
end VAR
