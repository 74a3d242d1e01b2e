/-! RUN: br, br_if, return -/
section BRS
variable {fu g0 g i b lt h : Nat} {f : Nat → Int32} {n sp r : Int} {C : KCo} {M : KMe} {W1 : KW1} {W3 : KW3} {Wj : KWj} {W5 : KW5} {M1 : KM1} {Mp : KMp} {M3 : KM3} {Mj : KMj} {Ml : KMl} {M5 : KM5} {M6 : KM6} {ct : KCt} {X : SP} {R : List (Nat × Nat × Nat)} {af : KAf} {rr : KRr} {rl : KRl} {st vs : Nat → Int64} {mb : KMb} {ag : KAg} {my : KMy} {rg : KRg}
set_option maxRecDepth 20000 in
theorem sr_br {ma' : KMa} {as' : KAs} {af' : KAf} {mc' : KMc} {rs' : KRs} {rr' : KRr} {rl' : KRl} {lb : Nat} {goes : Bool} {Fc : Out Empty (KMb × KAg × KMa × KAs × KAf)} {Gr : Out (KRf × KMc × KMy × KRg × KRs × KRr × KRl) (KRf × KMc × KMy × KRg × KRs × KRr × KRl × Bool)} (hm : MR M6 mb ag my rg) (h1 : ma'.steps = sp) (h2 : lb ≤ lt) (h3 : (goes = true ∧ RI X M1 Mp M3 Mj Ml n g0 ma' as' af' mc' rs' rr' rl' lb) ∨ (goes = false ∧ ma'.reason = 0 ∧ af'.depth = 0 ∧ (res M1 M3 g0 ≠ 0 → as'.stack 0 = rs'.values 0))) (e1 : Fc = .ret (mb, ag, ma', as', af')) (e2 : Gr = .ret (r, mc', my, rg, rs', rr', rl', goes)) : SR X M1 Mp M3 Mj Ml M6 n g0 sp lt r Fc Gr := by
  rcases h3 with ⟨q1, q2⟩ | ⟨q1, q2, q3, q4⟩
  · subst q1
    exact Or.inl ⟨_, _, _, _, _, _, _, _, _, _, _, lb, e1, e2, h1, hm, q2, by omega⟩
  · subst q1
    exact Or.inr (Or.inl ⟨_, _, _, _, _, _, _, _, _, _, _, e1, e2, h1, hm, q2, q3, q4⟩)
set_option maxRecDepth 20000 in
theorem s_12 (hfu : 10 < fu) (hX : CX f n C M W1 W3 Wj W5 M1 Mp M3 Mj Ml M5 M6 ct X) (hS : StI X M1 Mp M3 Mj Ml g0 g i b R lt h af rr rl st vs) (hm : MR M6 mb ag my rg) (hi : i < X.e g) (h0 : 0 ≤ sp) (h1 : sp + 1 ≤ 100000) (ho : C.ops i = 12) : SR X M1 Mp M3 Mj Ml M6 n g0 (sp + 1) lt r (f_Ma_takeStep fu C ct W1 W3 Wj W5 mb ag (KMa.mk sp 0 ((i + 1 : Nat) : Int)) (KAs.mk st h) af (C.ops i) i) (f_Mo_step fu r (KMc.mk (X.p g i + 1) n) my rg (KRs.mk vs h) rr rl (KMt.mk f n) M1 M3 Mj M5 M (C.ops i) (X.p g i)) := by
  obtain ⟨x, R0, e1, e2, e3, e4⟩ := hS.1.vals
  obtain ⟨d1, d2, d3, d4, d5, d6, d7⟩ := hS.dec hX hi
  obtain ⟨⟨j1, j2, j3⟩, j4, j5⟩ := d7.2.1 (by omega)
  obtain ⟨u, hu⟩ := Int.eq_ofNat_of_zero_le j4
  have hn := hX.2.2.2.2.1
  have hG := hS.gf hX
  have hs : X.s g ≤ i := hS.1.2.1
  have hV := hG.2.2.2.2.2.2.2.2.2.2.2.2.2.2
  have hst := hV.2.1 i hs hi
  have htg := (hV.2.2.2 i hs hi).2.1 (Or.inl ho)
  rw [e1] at hst
  unfold stAt at hst
  rw [ho] at hst
  unfold stV at hst
  simp only [Int.reduceEq, reduceIte, or_self] at hst
  obtain ⟨l, q1, hst⟩ := obnd_some hst
  obtain ⟨z, q2, q3⟩ := omap_some hst
  rw [hu] at q1 htg
  rw [Int.toNat_natCast] at htg
  obtain ⟨ma', as', af', mc', rs', rr', rl', lb, goes, y1, y2, y3, y4, y5⟩ := br_both (sp := sp + 1) (r := r) (nx := ((i + 1 : Nat) : Int)) (c := X.p g (i + 1)) (x' := x) (l0 := []) (h' := h) hX hS e1 rfl rfl rfl q1 q2
  refine sr_br hm y3 y4 y5 ?_ ?_
  · rw [ho, tk_ctl h0 h1 (by decide)]
    unfold f_Ma_performControl
    simp only [jp, Int.reduceEq, reduceIte]
    rw [if_pos (by omega), Int.toNat_natCast, htg, y1, obind_ret, obind_ret]
  · rw [ho]
    unfold f_Mo_step
    simp only [jp, Int.reduceEq, reduceIte]
    rw [j3 fu r n n (by omega) d4 hn, obind2_ret, hu]
    dsimp only
    rw [y2, obind2_ret]
set_option maxRecDepth 20000 in
theorem s_13 (hfu : 10 < fu) (hX : CX f n C M W1 W3 Wj W5 M1 Mp M3 Mj Ml M5 M6 ct X) (hS : StI X M1 Mp M3 Mj Ml g0 g i b R lt h af rr rl st vs) (hm : MR M6 mb ag my rg) (hi : i < X.e g) (h0 : 0 ≤ sp) (h1 : sp + 1 ≤ 100000) (ho : C.ops i = 13) : SR X M1 Mp M3 Mj Ml M6 n g0 (sp + 1) lt r (f_Ma_takeStep fu C ct W1 W3 Wj W5 mb ag (KMa.mk sp 0 ((i + 1 : Nat) : Int)) (KAs.mk st h) af (C.ops i) i) (f_Mo_step fu r (KMc.mk (X.p g i + 1) n) my rg (KRs.mk vs h) rr rl (KMt.mk f n) M1 M3 Mj M5 M (C.ops i) (X.p g i)) := by
  obtain ⟨x, R0, e1, e2, e3, e4⟩ := hS.1.vals
  obtain ⟨d1, d2, d3, d4, d5, d6, d7⟩ := hS.dec hX hi
  obtain ⟨⟨j1, j2, j3⟩, j4, j5⟩ := d7.2.1 (by omega)
  obtain ⟨u, hu⟩ := Int.eq_ofNat_of_zero_le j4
  have hn := hX.2.2.2.2.1
  have hh := hS.2.2.2.2.2.2.2.1
  have ha := hS.2.2.2.2.2.2.2.2.1
  have hG := hS.gf hX
  have hs : X.s g ≤ i := hS.1.2.1
  have hV := hG.2.2.2.2.2.2.2.2.2.2.2.2.2.2
  have hst := hV.2.1 i hs hi
  have htg := (hV.2.2.2 i hs hi).2.1 (Or.inr ho)
  have hk := (hG.2.2.2.2.2.2.2.2.1.2.1 i hs hi).2.2.2.1 (by omega) (by omega) (by omega)
  rw [e1] at hst
  unfold stAt at hst
  rw [ho] at hst
  unfold stV at hst
  simp only [Int.reduceEq, reduceIte, or_self] at hst
  obtain ⟨l, q1, hst⟩ := obnd_some hst
  obtain ⟨y, q2, hst⟩ := obnd_some hst
  obtain ⟨z, q3, q4⟩ := omap_some hst
  rw [hu] at q1 htg
  rw [Int.toNat_natCast] at htg
  rw [e1] at e2 e3
  obtain ⟨k1, k2, k3, k4, k5⟩ := popA_live q2 (Live.cons.mp e2).1
  have hpos : 0 < h := by rw [e3, tot_cons, k1, List.length_cons]; omega
  have hL := LI.all hG.2.2.2.2.2.2.2.2.1 hV (i - X.s g) i (by omega) (by omega)
  have hty : Ty0 l := by
    obtain ⟨xk, f1, f2⟩ := omap_some q1
    rw [← f2]
    rw [e1] at hL
    cases ho2 : (X.k g i)[u]? with
    | none =>
      obtain ⟨xb, f3, f4⟩ := hL.bot
      have hlen := hL.len
      have : u = (X.k g i).length := by
        have := List.getElem?_eq_none_iff.mp ho2
        have := (List.getElem?_eq_some_iff.mp f1).1
        omega
      rw [← this] at f3
      rw [show (x :: R0)[(u : Int).toNat]? = (x :: R0)[u]? from rfl, f3] at f1
      rw [← Option.some.inj f1, f4]
      exact hX.1.rs hS.1.1
    | some o =>
      obtain ⟨xo, f3, f4, f5, f6, f7, f8, f9, f10⟩ := hL.get ho2
      rw [show (x :: R0)[(u : Int).toNat]? = (x :: R0)[u]? from rfl, f3] at f1
      rw [← Option.some.inj f1, f4]
      have := (rT_uT (at_opn hG f7 f8 f9).2.2.2.2.2.2.1).2
      show Ty0 (if C.ops o = 3 then 0 else uT (C.extras o))
      by_cases c : C.ops o = 3
      · rw [if_pos c]; exact Or.inl rfl
      · rw [if_neg c]; exact this
  obtain ⟨p1, p2, p3⟩ := popO_live q3 hty k4
  obtain ⟨m1, m2⟩ := pushA_live hty p2
  rw [← p1] at m2
  have er0 : ∀ (v : Int64), v = st (h - 1) → f_Mo_popValue (KRs.mk vs h) = .ret (KRs.mk vs ((h - 1 : Nat) : Int), v) := fun v hv => by rw [rm_pop hpos hh, hv, ha (h - 1) (by omega)]
  by_cases c : st (h - 1) = (0 : Int64)
  · refine sr_go (h' := h - [y.1].length) hS (hS.1.pop (l := [y.1]) e1 (by omega) (by omega) hk q4.symm m1 (by rw [k1, m2]; rfl)) (by omega) (fun k hk => ha k (by omega)) hm ?_ ?_
    · rw [ho, tk_ctl h0 h1 (by decide)]
      unfold f_Ma_performControl
      simp only [jp, Int.reduceEq, reduceIte]
      rw [cm_pop hpos hh, obind_ret]
      dsimp only
      rw [if_pos c, obind_ret]
      rfl
    · rw [ho]
      unfold f_Mo_step
      simp only [jp, Int.reduceEq, reduceIte]
      rw [j3 fu r n n (by omega) d4 hn, obind2_ret, er0 _ rfl, obind_ret]
      dsimp only
      rw [if_pos c]
      rfl
  · obtain ⟨ma', as', af', mc', rs', rr', rl', lb, goes, y1, y2, y3, y4, y5⟩ := br_both (sp := sp + 1) (r := r) (nx := ((i + 1 : Nat) : Int)) (c := X.p g (i + 1)) (x' := y.2) (l0 := [y.1]) (h' := h - 1) hX hS e1 k1 k5 rfl q1 q3
    refine sr_br hm y3 y4 y5 ?_ ?_
    · rw [ho, tk_ctl h0 h1 (by decide)]
      unfold f_Ma_performControl
      simp only [jp, Int.reduceEq, reduceIte]
      rw [cm_pop hpos hh, obind_ret]
      dsimp only
      rw [if_neg c, if_pos (by omega), Int.toNat_natCast, htg, y1, obind_ret, obind_ret]
    · rw [ho]
      unfold f_Mo_step
      simp only [jp, Int.reduceEq, reduceIte]
      rw [j3 fu r n n (by omega) d4 hn, obind2_ret, er0 _ rfl, obind_ret]
      dsimp only
      rw [if_neg c, hu, y2, obind2_ret]
      dsimp only
      cases goes with
      | true => rw [if_pos rfl]
      | false => rw [if_neg Bool.false_ne_true]
set_option maxRecDepth 20000 in
theorem s_15 (hX : CX f n C M W1 W3 Wj W5 M1 Mp M3 Mj Ml M5 M6 ct X) (hS : StI X M1 Mp M3 Mj Ml g0 g i b R lt h af rr rl st vs) (hm : MR M6 mb ag my rg) (hi : i < X.e g) (h0 : 0 ≤ sp) (h1 : sp + 1 ≤ 100000) (ho : C.ops i = 15) : SR X M1 Mp M3 Mj Ml M6 n g0 (sp + 1) lt r (f_Ma_takeStep fu C ct W1 W3 Wj W5 mb ag (KMa.mk sp 0 ((i + 1 : Nat) : Int)) (KAs.mk st h) af (C.ops i) i) (f_Mo_step fu r (KMc.mk (X.p g i + 1) n) my rg (KRs.mk vs h) rr rl (KMt.mk f n) M1 M3 Mj M5 M (C.ops i) (X.p g i)) := by
  obtain ⟨x, R0, e1, e2, e3, e4⟩ := hS.1.vals
  have hG := hS.gf hX
  have hs : X.s g ≤ i := hS.1.2.1
  have hV := hG.2.2.2.2.2.2.2.2.2.2.2.2.2.2
  have hst := hV.2.1 i hs hi
  rw [e1] at hst e2 e3 e4
  unfold stAt at hst
  rw [ho] at hst
  unfold stV at hst
  simp only [Int.reduceEq, reduceIte, or_self] at hst
  obtain ⟨z, q2, q3⟩ := omap_some hst
  have hrs := hX.1.rs hS.1.1
  obtain ⟨p1, p2, p3⟩ := popO_live q2 hrs (Live.cons.mp e2).1
  have hfl : flat (x :: R0) = x.1 ++ flat R0 := rfl
  have htt : tot (x :: R0) = (x.1 ++ flat R0).length := rfl
  have hone : b + one (res M1 M3 g) ≤ h := by
    by_cases q : res M1 M3 g = 0
    · rw [show one (res M1 M3 g) = 0 from if_pos q]; omega
    · rw [if_neg q] at p1
      rw [p1, List.cons_append, List.length_cons] at htt
      rw [show one (res M1 M3 g) = 1 from if_neg q]; omega
  have hval : res M1 M3 g = 127 → R32 (st (h - 1)).toInt := fun q => by
    rw [if_neg (show ¬ res M1 M3 g = 0 by omega)] at p1
    rw [p1, List.cons_append, List.length_cons] at htt
    rw [hfl, p1, List.cons_append] at e4
    have := e4.1 q
    rwa [show b + nv M1 M3 Mj g + (z.1 ++ flat R0).length = h - 1 by omega] at this
  obtain ⟨ma', as', af', mc', rs', rr', rl', lb, y1, y2, y3, y4, y5⟩ := lv_both (sp := sp + 1) (r := r) (nx := ((i + 1 : Nat) : Int)) (c := X.p g i + 1) (rl' := rl) (h' := h) hX hS ⟨rfl, rfl⟩ (Nat.le_refl _) hone hval
  have y6 : (decide (R ≠ []) = true ∧ RI X M1 Mp M3 Mj Ml n g0 ma' as' af' mc' rs' rr' rl' lb) ∨ (decide (R ≠ []) = false ∧ ma'.reason = 0 ∧ af'.depth = 0 ∧ (res M1 M3 g0 ≠ 0 → as'.stack 0 = rs'.values 0)) := by
    rcases y5 with ⟨y5, y6⟩ | ⟨y5, y6⟩
    · exact Or.inl ⟨decide_eq_true y5, y6⟩
    · exact Or.inr ⟨decide_eq_false (fun q => q y5), y6⟩
  refine sr_br hm y3 (Nat.le_of_lt y4) y6 ?_ ?_
  · rw [ho, tk_ctl h0 h1 (by decide)]
    unfold f_Ma_performControl
    simp only [jp, Int.reduceEq, reduceIte]
    rw [y1, obind_ret, obind_ret]
  · rw [ho]
    unfold f_Mo_step
    simp only [jp, Int.reduceEq, reduceIte]
    rw [y2, obind2_ret]
end BRS
