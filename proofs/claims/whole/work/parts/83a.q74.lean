/-! RUN: every instruction that counts as a step; ends of blocks and of functions -/
section SAL
variable {fu g0 g i b lt h : Nat} {f : Nat → Int32} {n sp r : Int} {C : KCo} {M : KMe} {W1 : KW1} {W3 : KW3} {Wj : KWj} {W5 : KW5} {M1 : KM1} {Mp : KMp} {M3 : KM3} {Mj : KMj} {Ml : KMl} {M5 : KM5} {M6 : KM6} {ct : KCt} {X : SP} {R : List (Nat × Nat × Nat)} {af : KAf} {rr : KRr} {rl : KRl} {st vs : Nat → Int64} {mb : KMb} {ag : KAg} {my : KMy} {rg : KRg}
set_option maxRecDepth 20000 in
theorem s_all (hfu : 100 < fu) (hX : CX f n C M W1 W3 Wj W5 M1 Mp M3 Mj Ml M5 M6 ct X) (hS : StI X M1 Mp M3 Mj Ml g0 g i b R lt h af rr rl st vs) (hm : MR M6 mb ag my rg) (hi : i < X.e g) (h0 : 0 ≤ sp) (h1 : sp + 1 ≤ 100000) (h5 : C.ops i ≠ 5) (h11 : C.ops i ≠ 11) : SR X M1 Mp M3 Mj Ml M6 n g0 (sp + 1) lt r (f_Ma_takeStep fu C ct W1 W3 Wj W5 mb ag (KMa.mk sp 0 ((i + 1 : Nat) : Int)) (KAs.mk st h) af (C.ops i) i) (f_Mo_step fu r (KMc.mk (X.p g i + 1) n) my rg (KRs.mk vs h) rr rl (KMt.mk f n) M1 M3 Mj M5 M (C.ops i) (X.p g i)) := by
  have hk := (hS.dec hX hi).2.2.2.2.2.1
  have hf2 : 10 < fu := by omega
  by_cases c : C.ops i = 0
  · exact s_0 hm h0 h1 c
  by_cases c : C.ops i = 1
  · exact s_1 hX hS hm hi h0 h1 c
  by_cases c : C.ops i = 2 ∨ C.ops i = 3
  · exact s_23 hX hS hm hi h0 h1 c
  by_cases c : C.ops i = 4
  · exact s_4 hX hS hm hi h0 h1 c
  by_cases c : C.ops i = 12
  · exact s_12 hf2 hX hS hm hi h0 h1 c
  by_cases c : C.ops i = 13
  · exact s_13 hf2 hX hS hm hi h0 h1 c
  by_cases c : C.ops i = 14
  · exact s_14 hfu hX hS hm hi h0 h1 c
  by_cases c : C.ops i = 15
  · exact s_15 hX hS hm hi h0 h1 c
  by_cases c : C.ops i = 16
  · exact s_16 hfu hX hS hm hi h0 h1 c
  by_cases c : C.ops i = 26
  · exact s_26 hX hS hm hi h0 h1 c
  by_cases c : C.ops i = 27
  · exact s_27 hX hS hm hi h0 h1 c
  by_cases c : C.ops i = 32
  · exact s_32 hf2 hX hS hm hi h0 h1 c
  by_cases c : C.ops i = 33
  · exact s_33 hf2 hX hS hm hi h0 h1 c
  by_cases c : C.ops i = 34
  · exact s_34 hf2 hX hS hm hi h0 h1 c
  by_cases c : C.ops i = 35
  · exact s_35 hf2 hX hS hm hi h0 h1 c
  by_cases c : C.ops i = 36
  · exact s_36 hf2 hX hS hm hi h0 h1 c
  by_cases c : C.ops i = 40 ∨ C.ops i = 41 ∨ C.ops i = 44 ∨ C.ops i = 45
  · exact s_ld hfu hX hS hm hi h0 h1 c
  by_cases c : C.ops i = 54 ∨ C.ops i = 55 ∨ C.ops i = 58
  · exact s_st hfu hX hS hm hi h0 h1 c
  by_cases c : C.ops i = 63
  · exact s_63 hX hS hm hi h0 h1 c
  by_cases c : C.ops i = 64
  · exact s_64 hX hS hm hi h0 h1 c
  by_cases c : C.ops i = 65 ∨ C.ops i = 66
  · exact s_cst hf2 hX hS hm hi h0 h1 c
  exact s_num hfu hX hS hm hi h0 h1 (by omega)
set_option maxRecDepth 20000 in
/-- a block's end: its label goes, its values stay -/
theorem StI.drop1 (hX : CX f n C M W1 W3 Wj W5 M1 Mp M3 Mj Ml M5 M6 ct X) (hS : StI X M1 Mp M3 Mj Ml g0 g i b R lt h af rr rl st vs) {i' : Nat} {x w a : Fr} {R' : SS} (e1 : X.F g i = x :: w :: R') (e2 : X.F g i' = pushA x.2.2.2 w :: R') (hp : popO x.2.2.2 x = some a) (hae : a.1 = []) (hty : Ty0 x.2.2.2) (hk : X.k g i' = (X.k g i).drop 1) (hk0 : 0 < (X.k g i).length) (h1 : X.s g ≤ i') (h2 : i' ≤ X.e g) : StI X M1 Mp M3 Mj Ml g0 g i' b R (lt - 1) h af rr (KRl.mk rl.labelAt rl.labelHeight (rl.labelTop - 1)) st vs ∧ 1 < lt ∧ lt ≤ 10100 ∧ rl.labelTop = lt ∧ ¬ rl.labelTop - 1 = rr.frameLabels R.length := by
  obtain ⟨x9, R9, v1, v2, v3, v4⟩ := hS.1.vals
  rw [e1] at v2 v3 v4
  have lx := (Live.cons.mp v2).1
  have lw := (Live.cons.mp (Live.cons.mp v2).2).1
  have lr := (Live.cons.mp (Live.cons.mp v2).2).2
  obtain ⟨p1, p2, p3⟩ := popO_live hp hty lx
  obtain ⟨y1, y2⟩ := pushA_live (x := w) hty lw
  have hfl : flat (pushA x.2.2.2 w :: R') = flat (x :: w :: R') := by
    show (pushA x.2.2.2 w).1 ++ flat R' = x.1 ++ (w.1 ++ flat R')
    rw [y2, p1, hae]
    by_cases c : x.2.2.2 = 0
    · rw [if_pos c, if_pos c]; rfl
    · rw [if_neg c, if_neg c]; rfl
  have ht : tot (pushA x.2.2.2 w :: R') = tot (x :: w :: R') := congrArg List.length hfl
  have hJ := FI.jmp (m := 1) (lt' := rl.labelTop - 1) (st' := st) e2 hS.1 h1 h2 hk (by omega) (Live.cons.mpr ⟨y1, lr⟩) (fun _ _ => rfl) (by rw [hfl]; exact v4)
  rw [ht, ← v3] at hJ
  have hle := hS.lle hX
  obtain ⟨lb, c1, c2, c3, c4, c5⟩ := hS.1.2.2.2.2.2.2.2.2.2.2
  dsimp only at c1 c2 c3
  obtain ⟨s1, s2, s3, s4, s5, s6, s7, s8, s9, s10⟩ := hS
  refine ⟨⟨hJ, s2, s3, s4, s5, by show rl.labelTop - 1 = _; omega, s7, s8, s9, ?_⟩, by omega, hle, s6, by omega⟩
  cases R with
  | nil => exact s10
  | cons a R' => exact s10
set_option maxRecDepth 20000 in
theorem t_11 (hX : CX f n C M W1 W3 Wj W5 M1 Mp M3 Mj Ml M5 M6 ct X) (hS : StI X M1 Mp M3 Mj Ml g0 g i b R lt h af rr rl st vs) (hi : i < X.e g) (ho : C.ops i = 11) : X.p g (i + 1) = X.p g i + 1 ∧ StI X M1 Mp M3 Mj Ml g0 g (i + 1) b R (lt - 1) h af rr (KRl.mk rl.labelAt rl.labelHeight (rl.labelTop - 1)) st vs ∧ 1 < lt ∧ lt ≤ 10100 ∧ rl.labelTop = lt ∧ ¬ rl.labelTop - 1 = rr.frameLabels R.length := by
  have hG := hS.gf hX
  have hs : X.s g ≤ i := hS.1.2.1
  have hp : X.p g (i + 1) = X.p g i + 1 := (hS.dec hX hi).2.2.2.2.2.2.2.2.2.2.2.2.2 (by omega)
  obtain ⟨x, R0, e1, _, _, _⟩ := hS.1.vals
  have hV := hG.2.2.2.2.2.2.2.2.2.2.2.2.2.2
  have hSK := hG.2.2.2.2.2.2.2.2.1
  obtain ⟨o, t, f1, f2, f3, f4, f5⟩ := (hSK.2.1 i hs hi).2.1 ho
  have hLI := LI.all hSK hV (i - X.s g) i (by omega) (by omega)
  rw [f1] at hLI
  obtain ⟨x', R2, l1, l2, l3, l4, l5, l6, l7, l8⟩ := hLI
  have hst := hV.2.1 i hs hi
  rw [e1] at hst l1
  cases l1
  unfold stAt at hst
  rw [ho] at hst
  unfold stV at hst
  simp only [Int.reduceEq, reduceIte, or_self] at hst
  obtain ⟨a, q1, q2⟩ := obnd_some hst
  obtain ⟨q3, q4⟩ := ite_some q2
  cases R0 with
  | nil => cases q4
  | cons w R' =>
    have e2 := (Option.some.inj q4).symm
    have hty : Ty0 x.2.2.2 := by
      rw [l2]
      obtain ⟨_, _, _, _, _, _, u7, _⟩ := at_opn hG l5 l6 l7
      exact (rT_uT u7).2
    exact ⟨hp, hS.drop1 hX e1 e2 q1 q3.1 hty (by rw [f1, f2]; rfl) (by rw [f1, List.length_cons]; omega) (by omega) (by omega)⟩
end SAL
