/-! RUN: blocks are entered -/
section OPN
variable {fu g0 g i b lt h : Nat} {f : Nat → Int32} {n sp r : Int} {C : KCo} {M : KMe} {W1 : KW1} {W3 : KW3} {Wj : KWj} {W5 : KW5} {M1 : KM1} {Mp : KMp} {M3 : KM3} {Mj : KMj} {Ml : KMl} {M5 : KM5} {M6 : KM6} {ct : KCt} {X : SP} {R : List (Nat × Nat × Nat)} {af : KAf} {rr : KRr} {rl : KRl} {st vs : Nat → Int64} {mb : KMb} {ag : KAg} {my : KMy} {rg : KRg}
set_option maxRecDepth 20000 in
theorem FI.opn {i' : Nat} {w : Int × Int} {Q : SS} {lt' : Int} (hF : FI X M1 Mp M3 Mj Ml af rr rl st ((g, i, b) :: R) 0 lt h) (hk : X.k g i' = i :: X.k g i) (e' : X.F g i' = ([], false, w) :: Q) (e2 : tot (X.F g (i + 1)) = tot Q) (hQ : Live Q) (hT : VT st (b + nv M1 M3 Mj g) (flat Q)) (h1 : X.s g ≤ i') (h2 : i' ≤ X.e g) : FI X M1 Mp M3 Mj Ml af rr (KRl.mk (updZ rl.labelAt lt (X.p g i)) (updZ rl.labelHeight lt ((b + nv M1 M3 Mj g + tot Q : Nat) : Int)) lt') st ((g, i', b) :: R) 0 (lt + 1) (b + nv M1 M3 Mj g + tot Q) := by
  obtain ⟨a1, a2, a3, a4, a5, a6, a7, a8, a9, ⟨x, R0, b1, b2, b3, b4⟩, lb, c1, c2, c3, c4, c5⟩ := hF
  dsimp only at *
  have hl : ∀ k, k < lt → (KRl.mk (updZ rl.labelAt lt (X.p g i)) (updZ rl.labelHeight lt ((b + nv M1 M3 Mj g + tot Q : Nat) : Int)) lt').labelAt k = rl.labelAt k ∧ (KRl.mk (updZ rl.labelAt lt (X.p g i)) (updZ rl.labelHeight lt ((b + nv M1 M3 Mj g + tot Q : Nat) : Int)) lt').labelHeight k = rl.labelHeight k := fun k hk => ⟨updZ_n (by omega), updZ_n (by omega)⟩
  refine ⟨a1, h1, h2, a4, a5, a6, a7, a8, a9, ⟨([], false, w), Q, e', Live.cons.mpr ⟨⟨rfl, fun t ht => absurd ht List.not_mem_nil⟩, hQ⟩, rfl, hT⟩, lb, c1, (hl lb (by omega)).1.trans c2, by show lt + 1 = lb + 1 + (X.k g i').length; rw [hk, List.length_cons]; omega, ?_, FI.cg c5 (fun k _ => ⟨rfl, rfl, rfl, rfl, rfl, rfl, rfl⟩) (fun k hk => hl k (by omega)) (fun k _ => rfl)⟩
  show LB X g _ _ (lt + 1) (X.k g i')
  rw [hk]
  intro k o hko
  cases k with
  | zero =>
    cases hko
    exact ⟨updZ_s _ _ _, by rw [e2]; exact updZ_s _ _ _⟩
  | succ k =>
    have hko' : (X.k g i)[k]? = some o := hko
    have hlen : k < (X.k g i).length := (List.getElem?_eq_some_iff.mp hko').1
    obtain ⟨q1, q2⟩ := c4 k o hko'
    obtain ⟨q3, q4⟩ := hl (lt - 1 - k) (by omega)
    rw [show lt + 1 - 1 - (k + 1) = lt - 1 - k by omega]
    exact ⟨q3.trans q1, q4.trans q2⟩
set_option maxRecDepth 20000 in
theorem FI.le : ∀ {L : List (Nat × Nat × Nat)} {pend : Int} {lt h : Nat}, (∀ g i : Nat, (g : Int) < M3.functions → X.s g ≤ i → i ≤ X.e g → (X.k g i).length ≤ 100) → FI X M1 Mp M3 Mj Ml af rr rl st L pend lt h → lt ≤ 101 * L.length
  | [], _, _, _, _, h => by rw [h.1]; exact Nat.zero_le _
  | a :: R, _, _, _, hk, hF => by
    obtain ⟨a1, a2, a3, a4, a5, a6, a7, a8, a9, _, lb, c1, c2, c3, c4, c5⟩ := hF
    have := hk a.1 a.2.1 a1 a2 a3
    have := FI.le hk c5
    rw [List.length_cons]; omega
set_option maxRecDepth 20000 in
theorem CX.k100 (hX : CX f n C M W1 W3 Wj W5 M1 Mp M3 Mj Ml M5 M6 ct X) : ∀ g i : Nat, (g : Int) < M3.functions → X.s g ≤ i → i ≤ X.e g → (X.k g i).length ≤ 100 := by
  intro g i hg h1 h2
  have hK := (hX.2.2.2.2.2.2.1 g hg).2.2.2.2.2.2.2.2.1
  by_cases c : i = X.s g
  · rw [c, hK.1]; exact Nat.zero_le _
  · obtain ⟨j, rfl⟩ : ∃ q, i = q + 1 := ⟨i - 1, by omega⟩
    exact (hK.2.1 j (by omega) (by omega)).2.2.2.2
set_option maxRecDepth 20000 in
theorem StI.lle (hX : CX f n C M W1 W3 Wj W5 M1 Mp M3 Mj Ml M5 M6 ct X) (hS : StI X M1 Mp M3 Mj Ml g0 g i b R lt h af rr rl st vs) : lt ≤ 10100 := by
  have := hS.1.le hX.k100
  have := hS.2.2.2.2.2.2.1
  rw [List.length_cons] at *; omega
set_option maxRecDepth 20000 in
theorem mo_open (hl : lt ≤ 10100) (hr : rl.labelTop = lt) {a : Int} : f_Mo_enterBlock (KRs.mk vs h) rl a = .ret (KRl.mk (updZ rl.labelAt lt a) (updZ rl.labelHeight lt h) ((lt : Int) + 1)) := by
  unfold f_Mo_enterBlock
  rw [hr, if_pos (by omega), if_pos (by omega), if_pos (by omega), Int.toNat_natCast]
set_option maxRecDepth 20000 in
/-- both go on in a block that is entered -/
theorem sr_opn {i' : Nat} {w : Int × Int} {Q : SS} {Fc : Out Empty (KMb × KAg × KMa × KAs × KAf)} {Gr : Out (KRf × KMc × KMy × KRg × KRs × KRr × KRl) (KRf × KMc × KMy × KRg × KRs × KRr × KRl × Bool)} {h' : Nat} (hS : StI X M1 Mp M3 Mj Ml g0 g i b R lt h af rr rl st vs) (hk : X.k g i' = i :: X.k g i) (e' : X.F g i' = ([], false, w) :: Q) (e2 : tot (X.F g (i + 1)) = tot Q) (hQ : Live Q) (hT : VT st (b + nv M1 M3 Mj g) (flat Q)) (h1 : X.s g ≤ i') (h2 : i' ≤ X.e g) (hh : h' = b + nv M1 M3 Mj g + tot Q) (hle : h' ≤ h) (hm : MR M6 mb ag my rg) (e3 : Fc = .ret (mb, ag, KMa.mk sp 0 i', KAs.mk st h', af)) (e4 : Gr = .ret (r, KMc.mk (X.p g i') n, my, rg, KRs.mk vs h', rr, KRl.mk (updZ rl.labelAt lt (X.p g i)) (updZ rl.labelHeight lt h') ((lt : Int) + 1), true)) : SR X M1 Mp M3 Mj Ml M6 n g0 sp lt r Fc Gr := by
  subst hh
  have hF := hS.1.opn (lt' := (lt : Int) + 1) hk e' e2 hQ hT h1 h2
  obtain ⟨s1, s2, s3, s4, s5, s6, s7, s8, s9, s10⟩ := hS
  refine Or.inl ⟨_, _, _, _, _, _, _, _, _, _, _, lt + 1, e3, e4, rfl, hm, ⟨g, i', b, R, _, ⟨hF, s2, s3, s4, s5, rfl, s7, by omega, fun k hk => s9 k (by omega), ?_⟩, rfl, rfl, rfl, rfl, rfl⟩, Nat.le_refl _⟩
  cases R with
  | nil => exact s10
  | cons a R' => exact s10
/-! unreachable, nop, block, loop -/
set_option maxRecDepth 20000 in
theorem s_0 (hm : MR M6 mb ag my rg) (h0 : 0 ≤ sp) (h1 : sp + 1 ≤ 100000) (ho : C.ops i = 0) {mc : KMc} {a nx : Int} : SR X M1 Mp M3 Mj Ml M6 n g0 (sp + 1) lt r (f_Ma_takeStep fu C ct W1 W3 Wj W5 mb ag (KMa.mk sp 0 nx) (KAs.mk st h) af (C.ops i) i) (f_Mo_step fu r mc my rg (KRs.mk vs h) rr rl (KMt.mk f n) M1 M3 Mj M5 M (C.ops i) a) := by
  refine sr_no (af := af) (c := 3) (nx := nx) (as := KAs.mk st h) (mc := mc) (rs := KRs.mk vs h) (rr' := rr) (rl' := rl) (by decide) hm ?_ ?_
  · rw [ho, tk_ctl h0 h1 (by decide)]
    unfold f_Ma_performControl
    simp only [jp, Int.reduceEq, reduceIte]
    rfl
  · rw [ho]
    unfold f_Mo_step
    simp only [jp, Int.reduceEq, reduceIte]
    rfl
set_option maxRecDepth 20000 in
theorem s_1 (hX : CX f n C M W1 W3 Wj W5 M1 Mp M3 Mj Ml M5 M6 ct X) (hS : StI X M1 Mp M3 Mj Ml g0 g i b R lt h af rr rl st vs) (hm : MR M6 mb ag my rg) (hi : i < X.e g) (h0 : 0 ≤ sp) (h1 : sp + 1 ≤ 100000) (ho : C.ops i = 1) : SR X M1 Mp M3 Mj Ml M6 n g0 (sp + 1) lt r (f_Ma_takeStep fu C ct W1 W3 Wj W5 mb ag (KMa.mk sp 0 ((i + 1 : Nat) : Int)) (KAs.mk st h) af (C.ops i) i) (f_Mo_step fu r (KMc.mk (X.p g i + 1) n) my rg (KRs.mk vs h) rr rl (KMt.mk f n) M1 M3 Mj M5 M (C.ops i) (X.p g i)) := by
  obtain ⟨x, R0, e1, e2, e3, e4⟩ := hS.1.vals
  obtain ⟨d1, d2, d3, d4, d5, d6, d7⟩ := hS.dec hX hi
  have hG := hS.gf hX
  have hs : X.s g ≤ i := hS.1.2.1
  have hst := hG.2.2.2.2.2.2.2.2.2.2.2.2.2.2.2.1 i hs hi
  have hk := (hG.2.2.2.2.2.2.2.2.1.2.1 i hs hi).2.2.2.1 (by omega) (by omega) (by omega)
  have hF : X.F g (i + 1) = x :: R0 := by
    rw [e1] at hst
    unfold stAt at hst
    rw [ho] at hst
    unfold stV at hst
    simp only [Int.reduceEq, reduceIte] at hst
    exact (Option.some.inj hst).symm
  have hp : X.p g (i + 1) = X.p g i + 1 := d7.2.2.2.2.2.2.2 (by omega)
  rw [e1] at e2
  refine sr_go (h' := h - ([] : List Int).length) hS (hS.1.pop (l := []) e1 (by omega) (by omega) hk hF (Live.cons.mp e2).1 rfl) (by have := hS.2.2.2.2.2.2.2.1; omega) (fun k hk => hS.2.2.2.2.2.2.2.2.1 k (by omega)) hm ?_ ?_
  · rw [ho, tk_ctl h0 h1 (by decide)]
    unfold f_Ma_performControl
    simp only [jp, Int.reduceEq, reduceIte]
    rfl
  · rw [ho, hp]
    unfold f_Mo_step
    simp only [jp, Int.reduceEq, reduceIte]
    rfl
set_option maxRecDepth 20000 in
theorem s_23 (hX : CX f n C M W1 W3 Wj W5 M1 Mp M3 Mj Ml M5 M6 ct X) (hS : StI X M1 Mp M3 Mj Ml g0 g i b R lt h af rr rl st vs) (hm : MR M6 mb ag my rg) (hi : i < X.e g) (h0 : 0 ≤ sp) (h1 : sp + 1 ≤ 100000) (ho : C.ops i = 2 ∨ C.ops i = 3) : SR X M1 Mp M3 Mj Ml M6 n g0 (sp + 1) lt r (f_Ma_takeStep fu C ct W1 W3 Wj W5 mb ag (KMa.mk sp 0 ((i + 1 : Nat) : Int)) (KAs.mk st h) af (C.ops i) i) (f_Mo_step fu r (KMc.mk (X.p g i + 1) n) my rg (KRs.mk vs h) rr rl (KMt.mk f n) M1 M3 Mj M5 M (C.ops i) (X.p g i)) := by
  obtain ⟨x, R0, e1, e2, e3, e4⟩ := hS.1.vals
  obtain ⟨d1, d2, d3, d4, d5, d6, d7⟩ := hS.dec hX hi
  have hn := hX.2.2.2.2.1
  have hG := hS.gf hX
  have hs : X.s g ≤ i := hS.1.2.1
  have hst := hG.2.2.2.2.2.2.2.2.2.2.2.2.2.2.2.1 i hs hi
  have hk := (hG.2.2.2.2.2.2.2.2.1.2.1 i hs hi).1 (show isOp (C.ops i) by omega)
  have hF : X.F g (i + 1) = ([], false, hdO C i) :: x :: R0 := by
    rw [e1] at hst
    unfold stAt stV at hst
    dsimp only at hst
    rw [if_neg (by omega), if_neg (by omega), if_pos ho] at hst
    exact (Option.some.inj hst).symm
  have hp : X.p g (i + 1) = X.p g i + 1 + 1 := (d7.1 (by omega)).1
  have hl := hS.lle hX
  have hlt := hS.2.2.2.2.2.1
  rw [e1] at e2 e3 e4
  refine sr_opn (i' := i + 1) hS hk hF (by rw [hF]; rfl) e2 e4 (by omega) (by omega) e3 (Nat.le_refl _) hm ?_ ?_
  · rcases ho with ho | ho
    all_goals
      rw [ho, tk_ctl h0 h1 (by decide)]
      unfold f_Ma_performControl
      simp only [jp, Int.reduceEq, reduceIte]
      rfl
  · rcases ho with ho | ho
    all_goals
      rw [ho, hp]
      unfold f_Mo_step
      simp only [jp, Int.reduceEq, reduceIte]
      rw [if_pos (show R32 ((KMc.mk (X.p g i + 1) n).cursor + 1) by show R32 (X.p g i + 1 + 1); omega), mo_open hl hlt, obind_ret]
set_option maxRecDepth 20000 in
theorem s_4 (hX : CX f n C M W1 W3 Wj W5 M1 Mp M3 Mj Ml M5 M6 ct X) (hS : StI X M1 Mp M3 Mj Ml g0 g i b R lt h af rr rl st vs) (hm : MR M6 mb ag my rg) (hi : i < X.e g) (h0 : 0 ≤ sp) (h1 : sp + 1 ≤ 100000) (ho : C.ops i = 4) : SR X M1 Mp M3 Mj Ml M6 n g0 (sp + 1) lt r (f_Ma_takeStep fu C ct W1 W3 Wj W5 mb ag (KMa.mk sp 0 ((i + 1 : Nat) : Int)) (KAs.mk st h) af (C.ops i) i) (f_Mo_step fu r (KMc.mk (X.p g i + 1) n) my rg (KRs.mk vs h) rr rl (KMt.mk f n) M1 M3 Mj M5 M (C.ops i) (X.p g i)) := by
  obtain ⟨x, R0, e1, e2, e3, e4⟩ := hS.1.vals
  obtain ⟨d1, d2, d3, d4, d5, d6, d7⟩ := hS.dec hX hi
  have hn := hX.2.2.2.2.1
  have hG := hS.gf hX
  have hs : X.s g ≤ i := hS.1.2.1
  have hst := hG.2.2.2.2.2.2.2.2.2.2.2.2.2.2.2.1 i hs hi
  have hk := (hG.2.2.2.2.2.2.2.2.1.2.1 i hs hi).1 (show isOp (C.ops i) by omega)
  rw [e1] at e2 e3 e4 hst
  obtain ⟨y, q1, q2⟩ : ∃ y, popA 127 x = some y ∧ ([], false, hdO C i) :: y.2 :: R0 = X.F g (i + 1) := by
    unfold stAt stV at hst
    dsimp only at hst
    rw [if_neg (by omega), if_neg (by omega), if_neg (by omega), if_pos ho] at hst
    obtain ⟨y, q1, q2⟩ := omap_some hst
    exact ⟨y, q1, by rw [← q2]; show (([] : List Int), false, (if C.ops i = 3 then 0 else uT (C.extras i)), uT (C.extras i)) :: _ = _; rw [if_neg (show ¬ C.ops i = 3 by omega)]⟩
  obtain ⟨k1, k2, k3, k4, k5⟩ := popA_live q1 (Live.cons.mp e2).1
  have hp : X.p g (i + 1) = X.p g i + 1 + 1 := (d7.1 (by omega)).1
  have hl := hS.lle hX
  have hlt := hS.2.2.2.2.2.1
  have hh := hS.2.2.2.2.2.2.2.1
  have ha := hS.2.2.2.2.2.2.2.2.1
  have hfl : flat (x :: R0) = y.1 :: flat (y.2 :: R0) := by show x.1 ++ flat R0 = y.1 :: (y.2.1 ++ flat R0); rw [k1, List.cons_append]
  have htt : tot (x :: R0) = tot (y.2 :: R0) + 1 := by show (flat (x :: R0)).length = _; rw [hfl, List.length_cons]; rfl
  have hQ : Live (y.2 :: R0) := Live.cons.mpr ⟨k4, (Live.cons.mp e2).2⟩
  have hT : VT st (b + nv M1 M3 Mj g) (flat (y.2 :: R0)) := by rw [hfl] at e4; exact e4.2
  have hME := hG.2.2.2.2.2.2.2.2.2.2.1 i hs hi (show isOp (C.ops i) by omega)
  have hste := hG.2.2.2.2.2.2.2.2.2.1
  have hV := hG.2.2.2.2.2.2.2.2.2.2.2.2.2.2
  have hSK := hG.2.2.2.2.2.2.2.2.1
  have hpn : (X.p g i).toNat < 2000 := by omega
  have heg := hG.2.2.1
  have ec : f_Ma_takeStep fu C ct W1 W3 Wj W5 mb ag (KMa.mk sp 0 ((i + 1 : Nat) : Int)) (KAs.mk st h) af (C.ops i) i = if st (h - 1) = (0 : Int64) then (if C.elses i < 0 then (if R32 (C.ends i + 1) then .ret (mb, ag, KMa.mk (sp + 1) 0 (C.ends i + 1), KAs.mk st ((h - 1 : Nat) : Int), af) else .bad) else (if R32 (C.elses i + 1) then .ret (mb, ag, KMa.mk (sp + 1) 0 (C.elses i + 1), KAs.mk st ((h - 1 : Nat) : Int), af) else .bad)) else .ret (mb, ag, KMa.mk (sp + 1) 0 ((i + 1 : Nat) : Int), KAs.mk st ((h - 1 : Nat) : Int), af) := by
    rw [ho, tk_ctl h0 h1 (by decide)]
    unfold f_Ma_performControl
    simp only [jp, Int.reduceEq, reduceIte]
    rw [cm_pop (by omega) hh, obind_ret]
    dsimp only
    simp only [if_pos (show (0 : Int) ≤ i ∧ (i : Int) < 2000 by omega), Int.toNat_natCast]
    by_cases c : st (h - 1) = (0 : Int64)
    · rw [if_pos c, if_pos c]
      by_cases c2 : C.elses i < 0
      · rw [if_pos c2, if_pos c2]
        by_cases c3 : R32 (C.ends i + 1)
        · rw [if_pos c3, if_pos c3, obind_ret]
        · rw [if_neg c3, if_neg c3]; rfl
      · rw [if_neg c2, if_neg c2]
        by_cases c3 : R32 (C.elses i + 1)
        · rw [if_pos c3, if_pos c3, obind_ret]
        · rw [if_neg c3, if_neg c3]; rfl
    · rw [if_neg c, if_neg c, obind_ret]
  have er : f_Mo_step fu r (KMc.mk (X.p g i + 1) n) my rg (KRs.mk vs h) rr rl (KMt.mk f n) M1 M3 Mj M5 M (C.ops i) (X.p g i) = if st (h - 1) = (0 : Int64) then (if 0 ≤ M.elseOf (X.p g i).toNat then (if R32 (M.elseOf (X.p g i).toNat + 1) then .ret (r, KMc.mk (M.elseOf (X.p g i).toNat + 1) n, my, rg, KRs.mk vs ((h - 1 : Nat) : Int), rr, KRl.mk (updZ rl.labelAt lt (X.p g i)) (updZ rl.labelHeight lt ((h - 1 : Nat) : Int)) ((lt : Int) + 1), true) else .bad) else (if R32 (M.endOf (X.p g i).toNat + 1) then .ret (r, KMc.mk (M.endOf (X.p g i).toNat + 1) n, my, rg, KRs.mk vs ((h - 1 : Nat) : Int), rr, rl, true) else .bad)) else .ret (r, KMc.mk (X.p g (i + 1)) n, my, rg, KRs.mk vs ((h - 1 : Nat) : Int), rr, KRl.mk (updZ rl.labelAt lt (X.p g i)) (updZ rl.labelHeight lt ((h - 1 : Nat) : Int)) ((lt : Int) + 1), true) := by
    rw [ho, hp]
    unfold f_Mo_step
    simp only [jp, Int.reduceEq, reduceIte]
    rw [if_pos (show R32 ((KMc.mk (X.p g i + 1) n).cursor + 1) by show R32 (X.p g i + 1 + 1); omega), rm_pop (by omega) hh, obind_ret]
    dsimp only
    rw [mo_open hl hlt, ha (h - 1) (by omega)]
    simp only [obind_ret, if_pos (show (0 : Int) ≤ X.p g i ∧ X.p g i < 2000 by omega), reduceIte, Bool.false_eq_true]
  by_cases c : st (h - 1) = (0 : Int64)
  · rw [if_pos c] at ec er
    by_cases c2 : C.elses i < 0
    · have hxo : M.elseOf (X.p g i).toNat = -1 := by rw [hME.1, if_pos c2]
      obtain ⟨E, w, R', f1, f2, f3, f4, f5, f6, f7, f8, f9⟩ := at_end hSK hste hV hs hi (show isOp (C.ops i) by omega)
      have hpE : X.p g (E + 1) = X.p g E + 1 := (hG.2.2.2.2.2.2.2.1 E (by omega) f3).2.2.2.2.2.2.2.2.2.2.2.2 (by omega)
      have hpE0 := (hG.2.2.2.2.2.2.2.1 E (by omega) f3).1
      have hpE1 := (hG.2.2.2.2.2.2.2.1 E (by omega) f3).2.2.1
      have heo : M.endOf (X.p g i).toNat = X.p g E := by rw [hME.2 (by rw [hste]; exact List.not_mem_nil), f1, Int.toNat_natCast]
      rw [← q2] at f7
      have f7' : y.2 :: R0 = w :: R' := f7
      have f8' : X.F g (E + 1) = y.2 :: R0 := by rw [f8, f9 ho c2, f7']; rfl
      rw [if_pos c2, if_pos (show R32 (C.ends i + 1) by rw [f1]; omega), f1] at ec
      rw [if_neg (by rw [hxo]; decide), if_pos (by rw [heo]; omega), heo, ← hpE] at er
      exact sr_go (h' := h - [y.1].length) hS (hS.1.pop (l := [y.1]) e1 (by omega) (by omega) f6 f8' k4 k1) (by omega) (fun k hk => ha k (by omega)) hm ec er
    · obtain ⟨X', f1, f2, f3, f4, f5, f6, f7, f8⟩ := at_else hSK hste hV hs hi ho c2
      have hpE : X.p g (X' + 1) = X.p g X' + 1 := (hG.2.2.2.2.2.2.2.1 X' (by omega) f3).2.2.2.2.2.2.2.2.2.2.2.2 (by omega)
      have hpE0 := (hG.2.2.2.2.2.2.2.1 X' (by omega) f3).1
      have hpE1 := (hG.2.2.2.2.2.2.2.1 X' (by omega) f3).2.2.1
      have hxo : M.elseOf (X.p g i).toNat = X.p g X' := by rw [hME.1, if_neg c2, f1, Int.toNat_natCast]
      rw [if_neg c2, if_pos (show R32 (C.elses i + 1) by rw [f1]; omega), f1] at ec
      rw [if_pos (by rw [hxo]; exact hpE0), if_pos (by rw [hxo]; omega), hxo, ← hpE] at er
      rw [← q2] at f8
      have f8' : X.F g (X' + 1) = ([], false, hdO C i) :: y.2 :: R0 := f8
      exact sr_opn (i' := X' + 1) hS f6 f8' (by rw [← q2]; rfl) hQ hT (by omega) (by omega) (by omega) (by omega) hm ec er
  · rw [if_neg c] at ec er
    exact sr_opn (i' := i + 1) hS hk q2.symm (by rw [← q2]; rfl) hQ hT (by omega) (by omega) (by omega) (by omega) hm ec er
end OPN
