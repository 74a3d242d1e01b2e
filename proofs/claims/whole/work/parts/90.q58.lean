/-! RUN: the size of the memory -/
section MSZ
variable {fu g0 g i b lt h : Nat} {f : Nat → Int32} {n sp r : Int} {C : KCo} {M : KMe} {W1 : KW1} {W3 : KW3} {Wj : KWj} {W5 : KW5} {M1 : KM1} {Mp : KMp} {M3 : KM3} {Mj : KMj} {Ml : KMl} {M5 : KM5} {M6 : KM6} {ct : KCt} {X : SP} {R : List (Nat × Nat × Nat)} {af : KAf} {rr : KRr} {rl : KRl} {st vs : Nat → Int64} {mb : KMb} {ag : KAg} {my : KMy} {rg : KRg}
set_option maxRecDepth 20000 in
theorem ms_mem {mc : KMc} {rs : KRs} {t : KMt} {o a : Int} (ho : ldst o ∨ o = 63 ∨ o = 64) : f_Mo_step fu r mc my rg rs rr rl t M1 M3 Mj M5 M o a = obind2 (f_Mo_memoryStep fu r mc my rg rs t M5 o) (fun x => .ret (x.1, x.2.1, x.2.2.1, x.2.2.2.1, x.2.2.2.2, rr, rl, true)) (fun x => .thr (x.1, x.2.1, x.2.2.1, x.2.2.2.1, x.2.2.2.2, rr, rl)) := by
  unfold f_Mo_step
  simp only [jp]
  repeat (first | rw [if_neg (by omega)] | rw [if_pos (by omega)])
set_option maxRecDepth 20000 in
theorem s_63 (hX : CX f n C M W1 W3 Wj W5 M1 Mp M3 Mj Ml M5 M6 ct X) (hS : StI X M1 Mp M3 Mj Ml g0 g i b R lt h af rr rl st vs) (hm : MR M6 mb ag my rg) (hi : i < X.e g) (h0 : 0 ≤ sp) (h1 : sp + 1 ≤ 100000) (ho : C.ops i = 63) : SR X M1 Mp M3 Mj Ml M6 n g0 (sp + 1) lt r (f_Ma_takeStep fu C ct W1 W3 Wj W5 mb ag (KMa.mk sp 0 ((i + 1 : Nat) : Int)) (KAs.mk st h) af (C.ops i) i) (f_Mo_step fu r (KMc.mk (X.p g i + 1) n) my rg (KRs.mk vs h) rr rl (KMt.mk f n) M1 M3 Mj M5 M (C.ops i) (X.p g i)) := by
  obtain ⟨x, y, R0, e1, e2, e3, e4, e5, e6, e7⟩ := hS.op hX hi (by omega)
  obtain ⟨d1, d2, d3, d4, d5, d6, d7⟩ := hS.dec hX hi
  have hn := hX.2.2.2.2.1
  have hp : X.p g (i + 1) = X.p g i + 1 + 1 := (d7.2.2.2.2.1 (Or.inl ho)).1
  rw [ho] at e3; unfold opF at e3
  simp only [Int.reduceEq, Int.reduceLE, reduceIte] at e3
  obtain ⟨q1, e3⟩ := ite_some e3
  have q2 := Option.some.inj e3
  obtain ⟨y1, y2⟩ := pushA_live (t := 127) (x := x) (by omega) e4
  rw [q2] at y1 y2
  have hpg := hm.2.1
  have hp0 := hm.2.2.1
  have hp2 := hm.2.2.2.1
  have hv : R32 ((iI rg.pages).toInt64).toInt := by rw [Int32.toInt_toInt64, iI_t (by omega)]; omega
  refine sr_push (h' := h) (l := []) (l' := x.1) (t := 127) (v := (iI rg.pages).toInt64) (v' := (iI rg.pages).toInt64) hS e1 hi e5 e2 y1 rfl y2 rfl (fun _ => hv) rfl rfl hm ?_ ?_
  · rw [ho, tk_mem h0 h1 (by decide) (by decide)]
    unfold f_Ma_performMemory
    simp only [jp, Int.reduceEq, reduceIte]
    rw [hpg, cm_push]
    by_cases c : h < 12096
    · simp only [if_pos c, obind_ret]
    · simp only [if_neg c, obind_ret]
  · rw [ho, ms_mem (Or.inr (Or.inl rfl))]
    unfold f_Mo_memoryStep
    simp only [jp, Int.reduceEq, reduceIte]
    have hcu : (KMc.mk (X.p g i + 1) n).cursor + 1 = X.p g (i + 1) := hp.symm
    rw [hcu, if_pos (by omega), rm_push hS.2.2.2.2.2.2.2.1]
    by_cases c : h < 12096
    · simp only [if_pos c, obind2_ret]
    · simp only [if_neg c, obind2_thr]
set_option maxRecDepth 20000 in
theorem s_64 (hX : CX f n C M W1 W3 Wj W5 M1 Mp M3 Mj Ml M5 M6 ct X) (hS : StI X M1 Mp M3 Mj Ml g0 g i b R lt h af rr rl st vs) (hm : MR M6 mb ag my rg) (hi : i < X.e g) (h0 : 0 ≤ sp) (h1 : sp + 1 ≤ 100000) (ho : C.ops i = 64) : SR X M1 Mp M3 Mj Ml M6 n g0 (sp + 1) lt r (f_Ma_takeStep fu C ct W1 W3 Wj W5 mb ag (KMa.mk sp 0 ((i + 1 : Nat) : Int)) (KAs.mk st h) af (C.ops i) i) (f_Mo_step fu r (KMc.mk (X.p g i + 1) n) my rg (KRs.mk vs h) rr rl (KMt.mk f n) M1 M3 Mj M5 M (C.ops i) (X.p g i)) := by
  obtain ⟨x, y, R0, e1, e2, e3, e4, e5, e6, e7⟩ := hS.op hX hi (by omega)
  obtain ⟨d1, d2, d3, d4, d5, d6, d7⟩ := hS.dec hX hi
  have hn := hX.2.2.2.2.1
  have hh := hS.2.2.2.2.2.2.2.1
  have ha := hS.2.2.2.2.2.2.2.2.1
  have hp : X.p g (i + 1) = X.p g i + 1 + 1 := (d7.2.2.2.2.1 (Or.inr ho)).1
  rw [ho] at e3; unfold opF at e3
  simp only [Int.reduceEq, Int.reduceLE, reduceIte] at e3
  obtain ⟨q1, e3⟩ := ite_some e3
  obtain ⟨z, q2, q3⟩ := omap_some e3
  obtain ⟨k1, k2, k3, k4, k5⟩ := popA_live q2 e4
  obtain ⟨y1, y2⟩ := pushA_live (t := 127) (x := z.2) (by omega) k4
  rw [q3] at y1 y2
  have hpos : 0 < h := by rw [e7, tot_cons, k1, List.length_cons]; omega
  -- the memory that is there
  have hmost : W5.pagesMost = M5.most := by
    rcases hX.2.1 with ⟨w1, w2⟩ | ⟨wx, wy, wh, w1, w2, _⟩
    · rw [show hasM M5 = false from decide_eq_false (by rw [w2]; decide)] at q1; cases q1
    · rw [w1, w2]
  obtain ⟨m1, m2, m3, m4, m5, m6, m7⟩ := hm
  have hw := and32_t (st (h - 1))
  have hwl : uL (st (h - 1)) % 2 ^ 32 < 2 ^ 32 := Nat.mod_lt _ (by decide)
  generalize uL (st (h - 1)) % 2 ^ 32 = W at hw hwl
  have hpt : ((iI rg.pages).toInt64).toInt = rg.pages := by rw [Int32.toInt_toInt64, iI_t (by omega)]
  have hsum : (((iI rg.pages).toInt64) + (st (h - 1) &&& 4294967295)).toInt = rg.pages + W := by
    rw [Int64.toInt_add, hpt, hw, Int.bmod_eq_of_le (by omega) (by omega)]
  have h2 : (2 : Int64).toInt = 2 := by decide
  have hmn : ∀ a : Int, a ≤ (mnL M5.most 2).toInt ↔ ¬ M5.most.toInt < a ∧ ¬ (2 : Int) < a := by
    intro a
    unfold mnL
    rw [h2]
    by_cases c : (2 : Int) < M5.most.toInt
    · rw [if_pos c, h2]; omega
    · rw [if_neg c]; omega
  have hF := fun (v : Int64) (hv : (127 : Int) = 127 → R32 v.toInt) => hS.1.pp (i' := i + 1) (l := [z.1]) (v := v) e1 (by omega) (by omega) e5 e2 y1 (show x.1 = [z.1] ++ z.2.1 from k1) y2 hv
  have hF' : ∀ v : Int64, R32 v.toInt → FI X M1 Mp M3 Mj Ml af rr rl (vp_updL st (h - 1) v) ((g, i + 1, b) :: R) 0 lt (h - 1 + 1) := fun v hv => hF v (fun _ => hv)
  have hagr : ∀ (v : Int64) (k : Nat), k < h - 1 + 1 → vp_updL vs (h - 1) v k = vp_updL st (h - 1) v k := fun v k hk => ag_set ha (by omega) hk
  have hcu : (KMc.mk (X.p g i + 1) n).cursor + 1 = X.p g (i + 1) := hp.symm
  by_cases c : rg.pages + (W : Int) ≤ (mnL M5.most 2).toInt
  · have c' := (hmn _).mp c
    have hnew : ((iI rg.pages) + ((st (h - 1) &&& 4294967295).toInt32)).toInt = rg.pages + W := by
      rw [Int32.toInt_add, iI_t (by omega), Int64.toInt_toInt32, hw, Int.bmod_eq_of_le (n := (W : Int)) (by omega) (by omega), Int.bmod_eq_of_le (by omega) (by omega)]
    have hm' : MR M6 mb (KAg.mk ag.written (rg.pages + W) ag.globals) my (KRg.mk (rg.pages + W) rg.globals) := ⟨m1, rfl, (by show 0 ≤ rg.pages + (W : Int); omega), (by show rg.pages + (W : Int) ≤ 2; omega), m5, m6, m7⟩
    refine sr_go hS (hF' ((iI rg.pages).toInt64) (by rw [hpt]; omega)) (by omega) (hagr _) hm' ?_ ?_
    · rw [ho, tk_mem h0 h1 (by decide) (by decide)]
      unfold f_Ma_performMemory f_Ma_grow
      simp only [jp, Int.reduceEq, reduceIte]
      rw [cm_pop hpos hh, obind_ret]
      dsimp only
      rw [m2, hsum, hmost, if_pos c, cm_push, if_pos (by omega), hnew]
      rfl
    · rw [ho, ms_mem (Or.inr (Or.inr rfl))]
      unfold f_Mo_memoryStep
      simp only [jp, Int.reduceEq, reduceIte]
      rw [hcu, if_pos (by omega), rm_pop hpos hh, obind_ret]
      dsimp only
      rw [ha (h - 1) (by omega), hsum, if_neg c'.1, h2, if_neg c'.2, rm_push (by omega), if_pos (by omega), hnew]
      rfl
  · have c' : ¬ (¬ M5.most.toInt < rg.pages + W ∧ ¬ (2 : Int) < rg.pages + W) := fun q => c ((hmn _).mpr q)
    refine sr_go hS (hF' (-1) (by decide)) (by omega) (hagr _) ⟨m1, m2, m3, m4, m5, m6, m7⟩ ?_ ?_
    · rw [ho, tk_mem h0 h1 (by decide) (by decide)]
      unfold f_Ma_performMemory f_Ma_grow
      simp only [jp, Int.reduceEq, reduceIte]
      rw [cm_pop hpos hh, obind_ret]
      dsimp only
      rw [m2, hsum, hmost, if_neg c, cm_push, if_pos (by omega)]
      rfl
    · rw [ho, ms_mem (Or.inr (Or.inr rfl))]
      unfold f_Mo_memoryStep
      simp only [jp, Int.reduceEq, reduceIte]
      rw [hcu, if_pos (by omega), rm_pop hpos hh, obind_ret]
      dsimp only
      rw [ha (h - 1) (by omega), hsum, h2]
      simp only [Bool.false_eq_true, reduceIte]
      rw [rm_push (by omega), if_pos (show h - 1 < 12096 by omega)]
      by_cases c1 : M5.most.toInt < rg.pages + W
      · rw [if_pos c1]; rfl
      · rw [if_neg c1, if_pos (show (2 : Int) < rg.pages + W by omega)]; rfl
end MSZ
