/-! RUN: stores in step -/
section STS
variable {fu g0 g i b lt h : Nat} {f : Nat → Int32} {n sp r : Int} {C : KCo} {M : KMe} {W1 : KW1} {W3 : KW3} {Wj : KWj} {W5 : KW5} {M1 : KM1} {Mp : KMp} {M3 : KM3} {Mj : KMj} {Ml : KMl} {M5 : KM5} {M6 : KM6} {ct : KCt} {X : SP} {R : List (Nat × Nat × Nat)} {af : KAf} {rr : KRr} {rl : KRl} {st vs : Nat → Int64} {mb : KMb} {ag : KAg} {my : KMy} {rg : KRg}
set_option maxRecDepth 20000 in
theorem s_st (hfu : 100 < fu) (hX : CX f n C M W1 W3 Wj W5 M1 Mp M3 Mj Ml M5 M6 ct X) (hS : StI X M1 Mp M3 Mj Ml g0 g i b R lt h af rr rl st vs) (hm : MR M6 mb ag my rg) (hi : i < X.e g) (h0 : 0 ≤ sp) (h1 : sp + 1 ≤ 100000) (ho : C.ops i = 54 ∨ C.ops i = 55 ∨ C.ops i = 58) : SR X M1 Mp M3 Mj Ml M6 n g0 (sp + 1) lt r (f_Ma_takeStep fu C ct W1 W3 Wj W5 mb ag (KMa.mk sp 0 ((i + 1 : Nat) : Int)) (KAs.mk st h) af (C.ops i) i) (f_Mo_step fu r (KMc.mk (X.p g i + 1) n) my rg (KRs.mk vs h) rr rl (KMt.mk f n) M1 M3 Mj M5 M (C.ops i) (X.p g i)) := by
  obtain ⟨x, y, R0, e1, e2, e3, e4, e5, e6, e7⟩ := hS.op hX hi (by omega)
  obtain ⟨d1, d2, d3, d4, d5, d6, d7⟩ := hS.dec hX hi
  obtain ⟨pq, j1, j2, j3, j4, j5⟩ := d7.2.2.2.1 (by omega)
  have hn := hX.2.2.2.2.1
  have hh := hS.2.2.2.2.2.2.2.1
  have ha := hS.2.2.2.2.2.2.2.2.1
  have e3' : memA (hasM M5) (C.ops i) (C.extras i) x = some y := by
    unfold opF at e3
    rw [if_neg (by omega), if_neg (by omega), if_neg (by omega), if_neg (by omega), if_neg (by omega), if_neg (by omega), if_neg (by omega), if_neg (by omega), if_pos (by omega)] at e3
    exact e3
  unfold memA at e3'
  obtain ⟨_, e3'⟩ := ite_some e3'
  rw [if_neg (show ¬ C.ops i < 54 by omega)] at e3'
  obtain ⟨z, q2, q3⟩ := obnd_some e3'
  obtain ⟨u, q4, q5⟩ := omap_some q3
  obtain ⟨k1, k2, k3, k4, k5⟩ := popA_live q2 e4
  obtain ⟨m1, m2, m3, m4, m5⟩ := popA_live q4 k4
  have hx1 : x.1 = [z.1, u.1] ++ y.1 := by rw [k1, m1, ← q5]; rfl
  have hy : lv y := by rw [← q5]; exact m4
  have hpos : 1 < h := by rw [e7, tot_cons, k1, m1, List.length_cons, List.length_cons]; omega
  have hw := and32_t (st (h - 2))
  have hwl : uL (st (h - 2)) % 2 ^ 32 < 2 ^ 32 := Nat.mod_lt _ (by decide)
  generalize uL (st (h - 2)) % 2 ^ 32 = W at hw hwl
  have hvt : (C.values i).toInt = (uL (C.values i) : Int) := uL_toInt (by omega)
  have hA : ((st (h - 2) &&& 4294967295) + C.values i).toInt = ((W + uL (C.values i) : Nat) : Int) := by
    rw [Int64.toInt_add, hw, hvt, Int.bmod_eq_of_le (by omega) (by omega)]
    omega
  have hwd : wdt (C.ops i) ≤ 8 := by rcases ho with q | q | q <;> rw [q] <;> decide
  have hpg := hm.2.1
  obtain ⟨c1, c2⟩ := pg_in (p := rg.pages) hA (by omega) hwd hm.2.2.1 hm.2.2.2.1
  have hvs := ha (h - 1) (by omega)
  have hvs2 := ha (h - 2) (by omega)
  by_cases c : ((W + uL (C.values i) : Nat) : Int) + wdt (C.ops i) ≤ rg.pages * 65536
  · obtain ⟨mb', my', w1, w2, w3⟩ := st_loop (fu := fu) (x27 := (r, KMc.mk (X.p g (i + 1)) n, C.values i)) (y31 := (KRs.mk vs ((h - 1 : Nat) : Int), vs (h - 1))) (x33 := (KRs.mk vs ((h - 2 : Nat) : Int), vs (h - 2))) (val := st (h - 1)) (wd := wdt (C.ops i)) hA (by show (vs (h - 2) &&& 4294967295) + C.values i = _; rw [hvs2]) hvs hwd (by have := hm.2.2.2.1; omega) (wdt (C.ops i)) 0 fu fu mb my (by omega) (by omega) (by omega) hm.1
    rw [show ((0 : Nat) : Int) = 0 from rfl] at w1 w2
    refine sr_go (h' := h - 2) (i' := i + 1) (vs' := vs) (st' := st) hS (hS.1.pop (l := [z.1, u.1]) e1 (by omega) (by omega) e5 e2 hy hx1) (by omega) (fun k hk => ha k (by omega)) (mb := mb') (ag := KAg.mk true ag.pages ag.globals) (my := my') (rg := rg) ⟨w3, hm.2.1, hm.2.2.1, hm.2.2.2.1, hm.2.2.2.2.1, hm.2.2.2.2.2.1, fun q => absurd (show true = false from q) (by decide)⟩ ?_ ?_
    · rw [tk_mem h0 h1 (by omega) (by omega), cm_st (mb' := mb') d1 ho hpos hh (fun _ => w1), if_pos (by rw [hpg]; exact c1.mpr c), obind_ret]
    · rw [ms_mem (Or.inl (by omega)), rm_st (my' := my') (by omega) j1 j4 d4 hn ho hpos hh (fun _ => w2), if_pos (by rw [hvs2]; exact c2.mpr c), obind2_ret]
  · refine sr_no (af := af) (c := 6) (nx := ((i + 1 : Nat) : Int)) (as := KAs.mk st ((h - 2 : Nat) : Int)) (mc := KMc.mk (X.p g (i + 1)) n) (rs := KRs.mk vs ((h - 2 : Nat) : Int)) (rr' := rr) (rl' := rl) (by decide) hm ?_ ?_
    · rw [tk_mem h0 h1 (by omega) (by omega), cm_st (mb' := mb) d1 ho hpos hh (fun q => absurd (c1.mp (by rw [← hpg]; exact q)) c), if_neg (by rw [hpg]; exact fun q => c (c1.mp q)), obind_ret]
    · rw [ms_mem (Or.inl (by omega)), rm_st (my' := my) (by omega) j1 j4 d4 hn ho hpos hh (fun q => absurd (c2.mp (by rw [← hvs2]; exact q)) c), if_neg (by rw [hvs2]; exact fun q => c (c2.mp q)), obind2_thr]
end STS
