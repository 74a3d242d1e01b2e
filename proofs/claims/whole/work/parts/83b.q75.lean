/-! RUN: an else that is reached; a function's end; both loops -/
section RUNL
variable {fu g0 g i b lt h : Nat} {f : Nat → Int32} {n sp r : Int} {C : KCo} {M : KMe} {W1 : KW1} {W3 : KW3} {Wj : KWj} {W5 : KW5} {M1 : KM1} {Mp : KMp} {M3 : KM3} {Mj : KMj} {Ml : KMl} {M5 : KM5} {M6 : KM6} {ct : KCt} {X : SP} {R : List (Nat × Nat × Nat)} {af : KAf} {rr : KRr} {rl : KRl} {st vs : Nat → Int64} {mb : KMb} {ag : KAg} {my : KMy} {rg : KRg}
set_option maxRecDepth 20000 in
theorem t_5 (hX : CX f n C M W1 W3 Wj W5 M1 Mp M3 Mj Ml M5 M6 ct X) (hS : StI X M1 Mp M3 Mj Ml g0 g i b R lt h af rr rl st vs) (hi : i < X.e g) (ho : C.ops i = 5) : ∃ (E o : Nat), C.ends i = E ∧ E < 2000 ∧ X.p g (E + 1) = X.p g E + 1 ∧ 0 ≤ X.p g E ∧ X.p g E ≤ 2000 ∧ rl.labelAt (lt - 1) = X.p g o ∧ 0 ≤ X.p g o ∧ X.p g o < 2000 ∧ M.endOf (X.p g o).toNat = X.p g E ∧ StI X M1 Mp M3 Mj Ml g0 g (E + 1) b R (lt - 1) h af rr (KRl.mk rl.labelAt rl.labelHeight (rl.labelTop - 1)) st vs ∧ 1 < lt ∧ lt ≤ 10100 ∧ rl.labelTop = lt := by
  have hG := hS.gf hX
  have hs : X.s g ≤ i := hS.1.2.1
  have hn := hX.2.2.2.2.1
  obtain ⟨x, R0, e1, _, _, _⟩ := hS.1.vals
  have hV := hG.2.2.2.2.2.2.2.2.2.2.2.2.2.2
  have hSK := hG.2.2.2.2.2.2.2.2.1
  have hste := hG.2.2.2.2.2.2.2.2.2.1
  obtain ⟨o, t, f1, f2, f3, f4, f5⟩ := (hSK.2.1 i hs hi).2.2.1 ho
  have hLI := LI.all hSK hV (i - X.s g) i (by omega) (by omega)
  rw [f1] at hLI
  obtain ⟨x', R2, l1, l2, l3, l4, l5, l6, l7, l8⟩ := hLI
  have hst := hV.2.1 i hs hi
  rw [e1] at hst l1
  cases l1
  unfold stAt at hst
  rw [ho] at hst
  unfold stV at hst
  simp only [Int.reduceEq, reduceIte, or_self] at hst
  obtain ⟨a, q1, q2⟩ := obnd_some hst
  obtain ⟨q3, q4⟩ := ite_some q2
  obtain ⟨_, _, _, _, u5, _, u7, u8, u9, u10⟩ := at_opn hG l5 l6 l7
  obtain ⟨E, w, R', w1, w2, w3, w4, w5, w6, w7, w8, w9⟩ := at_end hSK hste hV l5 l6 l7
  obtain ⟨Y, z1, z2, z3, z4, z5, z6, z7, z8⟩ := at_else hSK hste hV l5 l6 f4 (by omega)
  have hYi : Y = i := by omega
  have hR0 : R0 = w :: R' := l3.trans w7
  have hx2 : x.2.2.2 = uT (C.extras o) := by rw [l2]
  have hME := hG.2.2.2.2.2.2.2.2.2.2.1 o l5 l6 l7
  have hpE := (hG.2.2.2.2.2.2.2.1 E (by omega) w3).2.2.2.2.2.2.2.2.2.2.2.2 (by omega)
  have hpE0 := (hG.2.2.2.2.2.2.2.1 E (by omega) w3).1
  have hpE1 := (hG.2.2.2.2.2.2.2.1 E (by omega) w3).2.2.1
  obtain ⟨lb, c1, c2, c3, c4, c5⟩ := hS.1.2.2.2.2.2.2.2.2.2.2
  dsimp only at c3 c4
  have hl := (c4 0 o (by rw [f1]; rfl)).1
  have hD := hS.drop1 hX (i' := E + 1) (a := a) (by rw [e1, hR0]) (by rw [hx2]; exact w8) q1 q3 (by rw [hx2]; exact (rT_uT u7).2) (by rw [w6, f1, l4]; rfl) (by rw [f1, List.length_cons]; omega) (by omega) (by omega)
  have he2 := hG.2.2.1
  refine ⟨E, o, by rw [← hYi, z7, w1], by omega, hpE, hpE0, by omega, hl, u9, by omega, by rw [hME.2 (by rw [hste]; exact List.not_mem_nil), w1, Int.toNat_natCast], hD.1, hD.2.1, hD.2.2.1, hD.2.2.2.1⟩
set_option maxRecDepth 20000 in
/-- the last end of a function -/
theorem t_end (hX : CX f n C M W1 W3 Wj W5 M1 Mp M3 Mj Ml M5 M6 ct X) (hS : StI X M1 Mp M3 Mj Ml g0 g i b R lt h af rr rl st vs) (hi : i = X.e g) {nx c : Int} {rl' : KRl} (hr : rl'.labelAt = rl.labelAt ∧ rl'.labelHeight = rl.labelHeight) : (rr.frameLabels R.length = (lt : Int) - 1 ∧ 0 < lt) ∧ ∃ (ma' : KMa) (as' : KAs) (af' : KAf) (mc' : KMc) (rs' : KRs) (rr' : KRr) (rl'' : KRl) (lb : Nat), f_Ma_leave W1 W3 Wj (KMa.mk sp 0 nx) (KAs.mk st h) af = .ret (ma', as', af') ∧ f_Mo_leave r (KMc.mk c n) (KRs.mk vs h) rr rl' M1 M3 = .ret (r, mc', rs', rr', rl'', decide (R ≠ [])) ∧ ma'.steps = sp ∧ lb < lt ∧ ((R ≠ [] ∧ RI X M1 Mp M3 Mj Ml n g0 ma' as' af' mc' rs' rr' rl'' lb) ∨ (R = [] ∧ ma'.reason = 0 ∧ af'.depth = 0 ∧ (res M1 M3 g0 ≠ 0 → as'.stack 0 = rs'.values 0))) := by
  have hG := hS.gf hX
  have hV := hG.2.2.2.2.2.2.2.2.2.2.2.2.2.2
  have hste := hG.2.2.2.2.2.2.2.2.2.1
  obtain ⟨x9, R9, e1, e2, e3, e4⟩ := hS.1.vals
  obtain ⟨x, y, k1, k2, k3, k4⟩ := hV.2.2.1
  rw [hi, k1] at e1 e2 e3 e4
  have hrs := hX.1.rs hS.1.1
  obtain ⟨p1, p2, p3⟩ := popO_live k3 hrs (Live.cons.mp e2).1
  have hfl : flat [x] = x.1 := List.append_nil _
  have htt : tot [x] = x.1.length := congrArg List.length hfl
  rw [k4] at p1
  have hone : b + one (res M1 M3 g) ≤ h := by
    by_cases q : res M1 M3 g = 0
    · rw [show one (res M1 M3 g) = 0 from if_pos q]; omega
    · rw [if_neg q] at p1
      rw [p1, List.length_cons] at htt
      rw [show one (res M1 M3 g) = 1 from if_neg q]; omega
  have hval : res M1 M3 g = 127 → R32 (st (h - 1)).toInt := fun q => by
    rw [if_neg (show ¬ res M1 M3 g = 0 by omega)] at p1
    rw [p1] at htt hfl
    rw [hfl] at e4
    have := e4.1 q
    rwa [show b + nv M1 M3 Mj g + ([] : List Int).length = h - 1 by rw [List.length_cons] at htt; omega] at this
  obtain ⟨lb, c1, c2, c3, c4, c5⟩ := hS.1.2.2.2.2.2.2.2.2.2.2
  dsimp only at c1 c3
  rw [hi, hste] at c3
  exact ⟨⟨by rw [c1, c3]; show (lb : Int) = ((lb + 1 + 0 : Nat) : Int) - 1; omega, by omega⟩, lv_both (sp := sp) (r := r) (nx := nx) (c := c) (rl' := rl') (h' := h) hX hS hr (Nat.le_refl _) hone hval⟩
set_option maxRecDepth 20000 in
theorem KMa_eq {ma : KMa} {s c x : Int} (h1 : ma.steps = s) (h2 : ma.reason = c) (h3 : ma.next = x) : ma = KMa.mk s c x := by subst h1 h2 h3; rfl
set_option maxRecDepth 20000 in
theorem KAs_eq {as : KAs} {x : Int} (h1 : as.height = x) : as = KAs.mk as.stack x := by subst h1; rfl
set_option maxRecDepth 20000 in
theorem KRs_eq {rs : KRs} {x : Int} (h1 : rs.valueTop = x) : rs = KRs.mk rs.values x := by subst h1; rfl
/-- both runs at their end -/
def LR (M1 : KM1) (M3 : KM3) (M6 : KM6) (g0 : Nat) (r : KRf) (Fc : Out Empty (KMb × KAg × KMa × KAs × KAf × Int)) (Gr : Out (KRf × KMc × KMy × KRg × KRs × KRr × KRl × KRq) (KRf × KMc × KMy × KRg × KRs × KRr × KRl × KRq × Bool)) : Prop := ∃ (mb : KMb) (ag : KAg) (ma : KMa) (as : KAs) (af : KAf) (turn : Int), Fc = .ret (mb, ag, ma, as, af, turn) ∧ 0 ≤ ma.steps ∧ ma.steps ≤ 100001 ∧ ((∃ (mc : KMc) (my : KMy) (rg : KRg) (rs : KRs) (rr : KRr) (rl : KRl), Gr = .ret (r, mc, my, rg, rs, rr, rl, ma.steps, false) ∧ ma.reason = 0 ∧ MR M6 mb ag my rg ∧ (res M1 M3 g0 ≠ 0 → as.stack 0 = rs.values 0)) ∨ (∃ t : KRf × KMc × KMy × KRg × KRs × KRr × KRl × KRq, Gr = .thr t ∧ ma.reason = t.1 ∧ t.1 ≠ 0 ∧ MR M6 mb ag t.2.2.1 t.2.2.2.1 ∧ t.2.2.2.2.2.2.2 = ma.steps))
set_option maxRecDepth 20000 in
theorem l76_stop {n1 : Nat} {ma : KMa} {as : KAs} {turn : Int} (ht : turn < 1000000) (hs : af.depth ≤ 0 ∨ ma.reason ≠ 0) : L76_Ma_run fu C ct W1 W3 Wj W5 (n1 + 1) mb ag ma as af turn = .ret (mb, ag, ma, as, af, turn) := by
  rw [L76_Ma_run.eq_2, if_neg (by omega)]
  by_cases c : af.depth ≤ 0
  · rw [if_pos c]
  · rw [if_neg c, if_neg (hs.resolve_left c)]
set_option maxRecDepth 20000 in
theorem l34_stop {n2 : Nat} {mc : KMc} {rs : KRs} {q : KRq} {t : KMt} : L34_Mo_run fu t M1 M3 Mj M5 M (n2 + 1) r mc my rg rs rr rl q false = .ret (r, mc, my, rg, rs, rr, rl, q, false) := by
  rw [L34_Mo_run.eq_2, if_neg Bool.false_ne_true]
set_option maxRecDepth 20000 in
theorem lp_run (hfu : 100 < fu) (hX : CX f n C M W1 W3 Wj W5 M1 Mp M3 Mj Ml M5 M6 ct X) : ∀ (m n1 n2 : Nat) (turn sp : Int) (mb : KMb) (ag : KAg) (my : KMy) (rg : KRg) (g i b : Nat) (R : List (Nat × Nat × Nat)) (lt h : Nat) (af : KAf) (rr : KRr) (rl : KRl) (st vs : Nat → Int64), m + 1 < n1 → m + 1 < n2 → turn + m = 300000 → 0 ≤ turn → 0 ≤ sp → sp ≤ 100000 → turn + lt ≤ 2 * sp + 1 → MR M6 mb ag my rg → StI X M1 Mp M3 Mj Ml g0 g i b R lt h af rr rl st vs → LR M1 M3 M6 g0 r (L76_Ma_run fu C ct W1 W3 Wj W5 n1 mb ag (KMa.mk sp 0 i) (KAs.mk st h) af turn) (L34_Mo_run fu (KMt.mk f n) M1 M3 Mj M5 M n2 r (KMc.mk (X.p g i) n) my rg (KRs.mk vs h) rr rl (KRq.mk sp) true) := by
  intro m
  induction m with
  | zero => intro n1 n2 turn sp mb ag my rg g i b R lt h af rr rl st vs _ _ h3 h4 h5 h6 h7; omega
  | succ m ih =>
    intro n1 n2 turn sp mb ag my rg g i b R lt h af rr rl st vs h1 h2 h3 h4 h5 h6 h7 hm hS
    obtain ⟨n1, rfl⟩ : ∃ q, n1 = q + 1 + 1 := ⟨n1 - 2, by omega⟩
    obtain ⟨n2, rfl⟩ : ∃ q, n2 = q + 1 + 1 := ⟨n2 - 2, by omega⟩
    have hG := hS.gf hX
    have hs : X.s g ≤ i := hS.1.2.1
    have hie : i ≤ X.e g := hS.1.2.2.1
    have he := hG.2.2.1
    have hn := hX.2.2.2.2.1
    have hdep := hS.2.1
    have hfr := hS.2.2.2.2.1
    have hR := hS.2.2.2.2.2.2.1
    have hlt := hS.2.2.2.2.2.1
    have hle := hS.lle hX
    -- the class, one turn
    have hc : L76_Ma_run fu C ct W1 W3 Wj W5 (n1 + 1 + 1) mb ag (KMa.mk sp 0 i) (KAs.mk st h) af turn = (if C.ops i = 256 then (obind (f_Ma_leave W1 W3 Wj (KMa.mk sp 0 ((i + 1 : Nat) : Int)) (KAs.mk st h) af) (fun (x : KMa × KAs × KAf) => L76_Ma_run fu C ct W1 W3 Wj W5 (n1 + 1) mb ag x.1 x.2.1 x.2.2 (turn + 1))) else (if C.ops i = 5 then (if R32 ((C.ends i) + 1) then L76_Ma_run fu C ct W1 W3 Wj W5 (n1 + 1) mb ag (KMa.mk sp 0 ((C.ends i) + 1)) (KAs.mk st h) af (turn + 1) else .bad) else (if C.ops i = 11 then L76_Ma_run fu C ct W1 W3 Wj W5 (n1 + 1) mb ag (KMa.mk sp 0 ((i + 1 : Nat) : Int)) (KAs.mk st h) af (turn + 1) else (obind (f_Ma_takeStep fu C ct W1 W3 Wj W5 mb ag (KMa.mk sp 0 ((i + 1 : Nat) : Int)) (KAs.mk st h) af (C.ops i) i) (fun (x : KMb × KAg × KMa × KAs × KAf) => L76_Ma_run fu C ct W1 W3 Wj W5 (n1 + 1) x.1 x.2.1 x.2.2.1 x.2.2.2.1 x.2.2.2.2 (turn + 1)))))) := by
      rw [L76_Ma_run.eq_2, if_neg (by omega), if_neg (by omega), if_pos rfl, if_pos (show (0 : Int) ≤ (i : Int) ∧ (i : Int) < 2000 by omega), if_pos (show R32 ((i : Int) + 1) by omega)]
      simp only [jp, if_pos (show R32 (turn + 1) by omega), if_pos (show (0 : Int) ≤ (i : Int) ∧ (i : Int) < 2000 by omega), Int.toNat_natCast, show (i : Int) + 1 = ((i + 1 : Nat) : Int) from rfl]
      rfl
    by_cases ce : i = X.e g
    · -- the end of a function
      have h256 : C.ops i = 256 := by rw [ce]; exact hG.2.2.2.2.2.2.2.2.2.2.2.1
      have hb11 : by8 (f (X.p g i).toNat) = 11 := by rw [ce]; exact hG.2.2.2.2.2.2.2.2.2.2.2.2.1
      have hpe : X.p g i + 1 ≤ n := by rw [ce]; exact hG.2.2.2.2.2.1
      have hp0 : 0 ≤ X.p g i := by rw [ce]; exact hG.2.2.2.2.2.2.1
      obtain ⟨⟨t1, t2⟩, ma', as', af', mc', rs', rr', rl'', lb, y1, y2, y3, y4, y5⟩ := t_end (sp := sp) (r := r) (nx := ((i + 1 : Nat) : Int)) (c := X.p g i + 1) (rl' := KRl.mk rl.labelAt rl.labelHeight ((rl.labelTop - 1) + 1)) hX hS ce ⟨rfl, rfl⟩
      have hfm : (rr.frames - 1).toNat = R.length := by omega
      have hr : L34_Mo_run fu (KMt.mk f n) M1 M3 Mj M5 M (n2 + 1 + 1) r (KMc.mk (X.p g i) n) my rg (KRs.mk vs h) rr rl (KRq.mk sp) true = L34_Mo_run fu (KMt.mk f n) M1 M3 Mj M5 M (n2 + 1) r mc' my rg rs' rr' rl'' (KRq.mk sp) (decide (R ≠ [])) := by
        rw [L34_Mo_run.eq_2, if_pos rfl, mo_one hp0 (by omega) hn, obind2_ret]
        dsimp only
        rw [hb11, if_pos rfl, if_pos (show R32 (rl.labelTop - 1) by omega), if_pos (show R32 (rr.frames - 1) by omega), if_pos (show 0 ≤ rr.frames - 1 ∧ rr.frames - 1 < 101 by omega), if_pos (show rl.labelTop - 1 = rr.frameLabels (rr.frames - 1).toNat by rw [hfm, t1]; omega), if_pos (show R32 (rl.labelTop - 1 + 1) by omega), y2, obind2_ret]
      rw [hc, if_pos h256, y1, obind_ret, hr]
      dsimp only
      rcases y5 with ⟨z1, g', i', b', R', h', hS', r1, r2, r3, r4, r5⟩ | ⟨z1, z2, z3, z4⟩
      · rw [KMa_eq y3 r1 r2, KAs_eq r3, r4, KRs_eq r5, decide_eq_true z1]
        exact ih (n1 + 1) (n2 + 1) (turn + 1) sp mb ag my rg g' i' b' R' lb h' af' rr' rl'' _ _ (by omega) (by omega) (by omega) (by omega) h5 h6 (by omega) hm hS'
      · rw [decide_eq_false (fun q => q z1), l76_stop (by omega) (Or.inl (by omega)), l34_stop]
        exact ⟨_, _, _, _, _, _, rfl, by omega, by omega, Or.inl ⟨_, _, _, _, _, _, by rw [y3], z2, hm, z4⟩⟩
    · have hi : i < X.e g := by omega
      obtain ⟨d1, d2, d3, d4, d5, d6, d7⟩ := hS.dec hX hi
      have h256 : ¬ C.ops i = 256 := by omega
      rw [hc, if_neg h256]
      by_cases c5 : C.ops i = 5
      · obtain ⟨E, o, k1, k2, k3, k4, k5, k6, k7, k8, k9, hS', k10, k11, k12⟩ := t_5 hX hS hi c5
        have hr : L34_Mo_run fu (KMt.mk f n) M1 M3 Mj M5 M (n2 + 1 + 1) r (KMc.mk (X.p g i) n) my rg (KRs.mk vs h) rr rl (KRq.mk sp) true = L34_Mo_run fu (KMt.mk f n) M1 M3 Mj M5 M (n2 + 1) r (KMc.mk (X.p g (E + 1)) n) my rg (KRs.mk vs h) rr (KRl.mk rl.labelAt rl.labelHeight (rl.labelTop - 1)) (KRq.mk sp) true := by
          have hl1 : (rl.labelTop - 1).toNat = lt - 1 := by omega
          rw [L34_Mo_run.eq_2, if_pos rfl, mo_one d2 (by omega) hn, obind2_ret]
          dsimp only
          rw [d5, if_neg (by omega), if_pos c5, if_pos (show R32 (rl.labelTop - 1) by omega), if_pos (show 0 ≤ rl.labelTop - 1 ∧ rl.labelTop - 1 < 24000 by omega), hl1, k6, if_pos (show 0 ≤ X.p g o ∧ X.p g o < 2000 by omega), k9, if_pos (show R32 (X.p g E + 1) by omega), k3]
        rw [if_pos c5, if_pos (show R32 (C.ends i + 1) by rw [k1]; omega), hr, show C.ends i + 1 = ((E + 1 : Nat) : Int) by rw [k1]; omega]
        exact ih (n1 + 1) (n2 + 1) (turn + 1) sp mb ag my rg g (E + 1) b R (lt - 1) h af rr _ st vs (by omega) (by omega) (by omega) (by omega) h5 h6 (by omega) hm hS'
      rw [if_neg c5]
      by_cases c11 : C.ops i = 11
      · obtain ⟨k1, hS', k2, k3, k4, k5⟩ := t_11 hX hS hi c11
        have hfm : (rr.frames - 1).toNat = R.length := by omega
        have hr : L34_Mo_run fu (KMt.mk f n) M1 M3 Mj M5 M (n2 + 1 + 1) r (KMc.mk (X.p g i) n) my rg (KRs.mk vs h) rr rl (KRq.mk sp) true = L34_Mo_run fu (KMt.mk f n) M1 M3 Mj M5 M (n2 + 1) r (KMc.mk (X.p g (i + 1)) n) my rg (KRs.mk vs h) rr (KRl.mk rl.labelAt rl.labelHeight (rl.labelTop - 1)) (KRq.mk sp) true := by
          rw [L34_Mo_run.eq_2, if_pos rfl, mo_one d2 (by omega) hn, obind2_ret]
          dsimp only
          rw [d5, if_pos c11, if_pos (show R32 (rl.labelTop - 1) by omega), if_pos (show R32 (rr.frames - 1) by omega), if_pos (show 0 ≤ rr.frames - 1 ∧ rr.frames - 1 < 101 by omega), if_neg (show ¬ rl.labelTop - 1 = rr.frameLabels (rr.frames - 1).toNat by rw [hfm]; exact k5), k1]
        rw [if_pos c11, hr]
        exact ih (n1 + 1) (n2 + 1) (turn + 1) sp mb ag my rg g (i + 1) b R (lt - 1) h af rr _ st vs (by omega) (by omega) (by omega) (by omega) h5 h6 (by omega) hm hS'
      rw [if_neg c11]
      have hr : L34_Mo_run fu (KMt.mk f n) M1 M3 Mj M5 M (n2 + 1 + 1) r (KMc.mk (X.p g i) n) my rg (KRs.mk vs h) rr rl (KRq.mk sp) true = if sp + 1 ≤ 100000 then obind2 (f_Mo_step fu r (KMc.mk (X.p g i + 1) n) my rg (KRs.mk vs h) rr rl (KMt.mk f n) M1 M3 Mj M5 M (C.ops i) (X.p g i)) (fun x => L34_Mo_run fu (KMt.mk f n) M1 M3 Mj M5 M (n2 + 1) x.1 x.2.1 x.2.2.1 x.2.2.2.1 x.2.2.2.2.1 x.2.2.2.2.2.1 x.2.2.2.2.2.2.1 (KRq.mk (sp + 1)) x.2.2.2.2.2.2.2) (fun x => .thr (x.1, x.2.1, x.2.2.1, x.2.2.2.1, x.2.2.2.2.1, x.2.2.2.2.2.1, x.2.2.2.2.2.2, KRq.mk (sp + 1))) else .thr (8, KMc.mk (X.p g i + 1) n, my, rg, KRs.mk vs h, rr, rl, KRq.mk (sp + 1)) := by
        rw [L34_Mo_run.eq_2, if_pos rfl, mo_one d2 (by omega) hn, obind2_ret]
        dsimp only
        rw [d5, if_neg c11, if_neg c5, if_pos (show R32 (sp + 1) by omega)]
        simp only [jp, en_f, en_t, obind2_ret, obind2_thr]
      rw [hr]
      by_cases cs : sp + 1 ≤ 100000
      · rw [if_pos cs]
        rcases s_all (r := r) (sp := sp) hfu hX hS hm hi h5 cs c5 c11 with ⟨mb', ag', ma', as', af', mc', my', rg', rs', rr', rl', lt', a1, a2, a3, a4, ⟨g', i', b', R', h', hS', r1, r2, r3, r4, r5⟩, a6⟩ | ⟨mb', ag', ma', as', af', mc', my', rg', rs', rr', rl', a1, a2, a3, a4, a5, a6, a7⟩ | ⟨mb', ag', ma', as', af', t, a1, a2, a3, a4, a5, a6⟩
        · rw [a1, a2, obind_ret, obind2_ret]
          dsimp only
          rw [KMa_eq a3 r1 r2, KAs_eq r3, r4, KRs_eq r5]
          exact ih (n1 + 1) (n2 + 1) (turn + 1) (sp + 1) mb' ag' my' rg' g' i' b' R' lt' h' af' rr' rl' _ _ (by omega) (by omega) (by omega) (by omega) (by omega) cs (by omega) a4 hS'
        · rw [a1, a2, obind_ret, obind2_ret]
          dsimp only
          rw [l76_stop (by omega) (Or.inl (by omega)), l34_stop]
          exact ⟨_, _, _, _, _, _, rfl, by omega, by omega, Or.inl ⟨_, _, _, _, _, _, by rw [a3], a5, a4, a7⟩⟩
        · rw [a1, a2, obind_ret, obind2_thr]
          dsimp only
          rw [l76_stop (by omega) (Or.inr (by rw [a4]; exact a5))]
          exact ⟨_, _, _, _, _, _, rfl, by omega, by omega, Or.inr ⟨_, rfl, a4, a5, a6, a3.symm⟩⟩
      · rw [if_neg cs]
        have htk : f_Ma_takeStep fu C ct W1 W3 Wj W5 mb ag (KMa.mk sp 0 ((i + 1 : Nat) : Int)) (KAs.mk st h) af (C.ops i) i = .ret (mb, ag, KMa.mk (sp + 1) 8 ((i + 1 : Nat) : Int), KAs.mk st h, af) := by
          unfold f_Ma_takeStep
          simp only [jp]
          rw [if_pos (show R32 ((KMa.mk sp 0 ((i + 1 : Nat) : Int)).steps + 1) by show R32 (sp + 1); omega), if_neg (show ¬ (KMa.mk sp 0 ((i + 1 : Nat) : Int)).steps + 1 ≤ 100000 from cs)]
        rw [htk, obind_ret]
        dsimp only
        rw [l76_stop (by omega) (Or.inr (show (8 : Int) ≠ 0 by decide))]
        exact ⟨_, _, _, _, _, _, rfl, by show 0 ≤ sp + 1; omega, by show sp + 1 ≤ 100001; omega, Or.inr ⟨_, rfl, rfl, show (8 : Int) ≠ 0 by decide, hm, rfl⟩⟩
end RUNL
