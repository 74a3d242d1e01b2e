/-! RUN: constants, variables, drop, select -/
set_option maxRecDepth 20000 in
theorem v32 {v : Int64} (h0 : 0 ≤ v.toInt) (h1 : v.toInt ≤ 2147483647) : v.toInt32.toInt = v.toInt := by
  rw [Int64.toInt_toInt32, Int.bmod_eq_of_le (by omega) (by omega)]
section TK
variable {fu g0 g i b lt h : Nat} {f : Nat → Int32} {n sp r : Int} {C : KCo} {M : KMe} {W1 : KW1} {W3 : KW3} {Wj : KWj} {W5 : KW5} {M1 : KM1} {Mp : KMp} {M3 : KM3} {Mj : KMj} {Ml : KMl} {M5 : KM5} {M6 : KM6} {ct : KCt} {X : SP} {R : List (Nat × Nat × Nat)} {af : KAf} {rr : KRr} {rl : KRl} {st vs : Nat → Int64} {mb : KMb} {ag : KAg} {my : KMy} {rg : KRg} {as : KAs} {o nx a : Int}
set_option maxRecDepth 20000 in
theorem tk_ctl (h0 : 0 ≤ sp) (h1 : sp + 1 ≤ 100000) (ho : o ≤ 16) : f_Ma_takeStep fu C ct W1 W3 Wj W5 mb ag (KMa.mk sp 0 nx) as af o a = obind (f_Ma_performControl fu C ct W1 W3 Wj (KMa.mk (sp + 1) 0 nx) as af o a) (fun x => .ret (mb, ag, x.1, x.2.1, x.2.2)) := by
  unfold f_Ma_takeStep
  simp only [jp]
  rw [if_pos (show R32 ((KMa.mk sp 0 nx).steps + 1) by show R32 (sp + 1); omega), if_pos (show (KMa.mk sp 0 nx).steps + 1 ≤ 100000 from h1), if_neg (show ¬ 16 < o by omega)]
set_option maxRecDepth 20000 in
theorem tk_var (h0 : 0 ≤ sp) (h1 : sp + 1 ≤ 100000) (ho : 16 < o) (ho2 : o ≤ 36) (hi : i < 2000) : f_Ma_takeStep fu C ct W1 W3 Wj W5 mb ag (KMa.mk sp 0 nx) as af o i = obind (f_Ma_performVariable ag (KMa.mk (sp + 1) 0 nx) as af o ((C.values i).toInt32.toInt)) (fun x => .ret (mb, x.1, x.2.1, x.2.2, af)) := by
  unfold f_Ma_takeStep
  simp only [jp]
  rw [if_pos (show R32 ((KMa.mk sp 0 nx).steps + 1) by show R32 (sp + 1); omega), if_pos (show (KMa.mk sp 0 nx).steps + 1 ≤ 100000 from h1), if_pos ho, if_neg (show ¬ 36 < o by omega), if_pos (show (0 : Int) ≤ i ∧ (i : Int) < 2000 by omega), Int.toNat_natCast]
set_option maxRecDepth 20000 in
theorem tk_mem (h0 : 0 ≤ sp) (h1 : sp + 1 ≤ 100000) (ho : 36 < o) (ho2 : o ≤ 64) : f_Ma_takeStep fu C ct W1 W3 Wj W5 mb ag (KMa.mk sp 0 nx) as af o a = obind (f_Ma_performMemory fu C W5 mb ag (KMa.mk (sp + 1) 0 nx) as o a) (fun x => .ret (x.1, x.2.1, x.2.2.1, x.2.2.2, af)) := by
  unfold f_Ma_takeStep
  simp only [jp]
  rw [if_pos (show R32 ((KMa.mk sp 0 nx).steps + 1) by show R32 (sp + 1); omega), if_pos (show (KMa.mk sp 0 nx).steps + 1 ≤ 100000 from h1), if_pos (show 16 < o by omega), if_pos ho, if_neg (show ¬ 64 < o by omega)]
set_option maxRecDepth 20000 in
theorem tk_cst (h0 : 0 ≤ sp) (h1 : sp + 1 ≤ 100000) (ho : 64 < o) (ho2 : o ≤ 66) (hi : i < 2000) : f_Ma_takeStep fu C ct W1 W3 Wj W5 mb ag (KMa.mk sp 0 nx) as af o i = obind (f_Ma_push (KMa.mk (sp + 1) 0 nx) as (C.values i)) (fun x => .ret (mb, ag, x.1, x.2, af)) := by
  unfold f_Ma_takeStep
  simp only [jp]
  rw [if_pos (show R32 ((KMa.mk sp 0 nx).steps + 1) by show R32 (sp + 1); omega), if_pos (show (KMa.mk sp 0 nx).steps + 1 ≤ 100000 from h1), if_pos (show 16 < o by omega), if_pos (show 36 < o by omega), if_pos ho, if_neg (show ¬ 66 < o by omega), if_pos (show (0 : Int) ≤ i ∧ (i : Int) < 2000 by omega), Int.toNat_natCast]
set_option maxRecDepth 20000 in
theorem tk_cmp (h0 : 0 ≤ sp) (h1 : sp + 1 ≤ 100000) (ho : 66 < o) (ho2 : o ≤ 90) : f_Ma_takeStep fu C ct W1 W3 Wj W5 mb ag (KMa.mk sp 0 nx) as af o a = obind (f_Ma_performComparison (KMa.mk (sp + 1) 0 nx) as o) (fun x => .ret (mb, ag, x.1, x.2, af)) := by
  unfold f_Ma_takeStep
  simp only [jp]
  rw [if_pos (show R32 ((KMa.mk sp 0 nx).steps + 1) by show R32 (sp + 1); omega), if_pos (show (KMa.mk sp 0 nx).steps + 1 ≤ 100000 from h1), if_pos (show 16 < o by omega), if_pos (show 36 < o by omega), if_pos (show 64 < o by omega), if_pos ho, if_neg (show ¬ 90 < o by omega)]
set_option maxRecDepth 20000 in
theorem tk_int (h0 : 0 ≤ sp) (h1 : sp + 1 ≤ 100000) (ho : 90 < o) (ho2 : o ≤ 120) : f_Ma_takeStep fu C ct W1 W3 Wj W5 mb ag (KMa.mk sp 0 nx) as af o a = obind (f_Ma_performInts fu (KMa.mk (sp + 1) 0 nx) as o) (fun x => .ret (mb, ag, x.1, x.2, af)) := by
  unfold f_Ma_takeStep
  simp only [jp]
  rw [if_pos (show R32 ((KMa.mk sp 0 nx).steps + 1) by show R32 (sp + 1); omega), if_pos (show (KMa.mk sp 0 nx).steps + 1 ≤ 100000 from h1), if_pos (show 16 < o by omega), if_pos (show 36 < o by omega), if_pos (show 64 < o by omega), if_pos (show 66 < o by omega), if_pos ho, if_neg (show ¬ 120 < o by omega)]
set_option maxRecDepth 20000 in
theorem tk_lng (h0 : 0 ≤ sp) (h1 : sp + 1 ≤ 100000) (ho : 120 < o) (ho2 : o ≤ 138) : f_Ma_takeStep fu C ct W1 W3 Wj W5 mb ag (KMa.mk sp 0 nx) as af o a = obind (f_Ma_performLongs fu (KMa.mk (sp + 1) 0 nx) as (o - 18)) (fun x => .ret (mb, ag, x.1, x.2, af)) := by
  unfold f_Ma_takeStep
  simp only [jp]
  rw [if_pos (show R32 ((KMa.mk sp 0 nx).steps + 1) by show R32 (sp + 1); omega), if_pos (show (KMa.mk sp 0 nx).steps + 1 ≤ 100000 from h1), if_pos (show 16 < o by omega), if_pos (show 36 < o by omega), if_pos (show 64 < o by omega), if_pos (show 66 < o by omega), if_pos (show 90 < o by omega), if_pos ho, if_neg (show ¬ 138 < o by omega), if_pos (show R32 (o - 18) by omega)]
set_option maxRecDepth 20000 in
/-- the place of an instruction, and of the next -/
theorem StI.dec (hX : CX f n C M W1 W3 Wj W5 M1 Mp M3 Mj Ml M5 M6 ct X) (hS : StI X M1 Mp M3 Mj Ml g0 g i b R lt h af rr rl st vs) (hi : i < X.e g) : i < 2000 ∧ 0 ≤ X.p g i ∧ X.p g i < X.p g (i + 1) ∧ X.p g (i + 1) ≤ n ∧ by8 (f (X.p g i).toNat) = C.ops i ∧ kn (C.ops i) ∧ DecI f (C.ops i) (C.values i) (C.extras i) C.labels C.labelCount (X.p g i + 1) (X.p g (i + 1)) := by
  have hG := hS.gf hX
  have hs : X.s g ≤ i := hS.1.2.1
  obtain ⟨d1, d2, d3, d4, d5, d6⟩ := hG.2.2.2.2.2.2.2.1 i hs hi
  have hle : X.p g (i + 1) ≤ X.p g (X.e g) := by
    by_cases c : i + 1 = X.e g
    · rw [c]; omega
    · have := hG.2.2.2.2.2.2.2.1.lt' (show X.s g ≤ i + 1 by omega) (show i + 1 < X.e g by omega) (Nat.le_refl _); omega
  have := hG.2.2.2.2.2.1
  have := hG.2.2.1
  exact ⟨by omega, d1, d2, by omega, d4, d5, d6⟩
/-! constants -/
set_option maxRecDepth 20000 in
theorem s_cst (hfu : 10 < fu) (hX : CX f n C M W1 W3 Wj W5 M1 Mp M3 Mj Ml M5 M6 ct X) (hS : StI X M1 Mp M3 Mj Ml g0 g i b R lt h af rr rl st vs) (hm : MR M6 mb ag my rg) (hi : i < X.e g) (h0 : 0 ≤ sp) (h1 : sp + 1 ≤ 100000) (ho : C.ops i = 65 ∨ C.ops i = 66) : SR X M1 Mp M3 Mj Ml M6 n g0 (sp + 1) lt r (f_Ma_takeStep fu C ct W1 W3 Wj W5 mb ag (KMa.mk sp 0 ((i + 1 : Nat) : Int)) (KAs.mk st h) af (C.ops i) i) (f_Mo_step fu r (KMc.mk (X.p g i + 1) n) my rg (KRs.mk vs h) rr rl (KMt.mk f n) M1 M3 Mj M5 M (C.ops i) (X.p g i)) := by
  obtain ⟨x, y, R0, e1, e2, e3, e4, e5, e6, e7⟩ := hS.op hX hi (by omega)
  obtain ⟨d1, d2, d3, d4, d5, d6, d7⟩ := hS.dec hX hi
  have hn := hX.2.2.2.2.1
  rcases ho with ho | ho
  · obtain ⟨⟨k1, k2, k3⟩, k4⟩ := d7.2.2.2.2.2.1 ho
    have hy : y = pushA 127 x := by
      rw [ho] at e3; unfold opF at e3
      simp only [Int.reduceEq, Int.reduceLE, reduceIte] at e3
      exact (Option.some.inj e3).symm
    obtain ⟨y1, y2⟩ := pushA_live (t := 127) (by omega) e4
    rw [← hy] at y1 y2
    refine sr_push (l := []) (l' := x.1) hS e1 hi e5 e2 y1 rfl y2 rfl (fun _ => k4) rfl rfl hm (tk_cst h0 h1 (by omega) (by omega) d1) ?_
    rw [ho]
    unfold f_Mo_step
    simp only [jp, Int.reduceEq, reduceIte]
    rw [k3 fu r n n hfu d4 hn, obind2_ret]
    rfl
  · have k0 := d7.2.2.2.2.2.2.1 ho
    obtain ⟨k1, k2, k3⟩ := k0
    have hy : y = pushA 126 x := by
      rw [ho] at e3; unfold opF at e3
      simp only [Int.reduceEq, Int.reduceLE, reduceIte] at e3
      exact (Option.some.inj e3).symm
    obtain ⟨y1, y2⟩ := pushA_live (t := 126) (by omega) e4
    rw [← hy] at y1 y2
    refine sr_push (l := []) (l' := x.1) (t := 126) hS e1 hi e5 e2 y1 rfl y2 rfl (fun q => absurd q (by decide)) rfl rfl hm (tk_cst h0 h1 (by omega) (by omega) d1) ?_
    rw [ho]
    unfold f_Mo_step
    simp only [jp, Int.reduceEq, reduceIte]
    rw [k3 fu r n n hfu d4 hn, obind2_ret]
    rfl
end TK
