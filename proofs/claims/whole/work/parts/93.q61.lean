/-! RUN: loads in step -/
set_option maxRecDepth 20000 in
theorem r32_i (x : Int32) : R32 (x.toInt64).toInt := by
  rw [Int32.toInt_toInt64]
  have := Int32.le_toInt x
  have := Int32.toInt_lt x
  omega
section LDS
variable {fu g0 g i b lt h : Nat} {f : Nat → Int32} {n sp r : Int} {C : KCo} {M : KMe} {W1 : KW1} {W3 : KW3} {Wj : KWj} {W5 : KW5} {M1 : KM1} {Mp : KMp} {M3 : KM3} {Mj : KMj} {Ml : KMl} {M5 : KM5} {M6 : KM6} {ct : KCt} {X : SP} {R : List (Nat × Nat × Nat)} {af : KAf} {rr : KRr} {rl : KRl} {st vs : Nat → Int64} {mb : KMb} {ag : KAg} {my : KMy} {rg : KRg}
set_option maxRecDepth 20000 in
theorem pg_in {a : Int64} {A wd : Nat} {p : Int} (hA : a.toInt = A) (hA2 : A < 2 ^ 34) (hw : wd ≤ 8) (hp0 : 0 ≤ p) (hp2 : p ≤ 2) : ((a + (iI (wd : Int)).toInt64).toInt ≤ (((iI p).toInt64) * 65536).toInt ↔ (A : Int) + wd ≤ p * 65536) ∧ ((a + (iI (wd : Int)).toInt64).toInt ≤ (65536 * ((iI p).toInt64)).toInt ↔ (A : Int) + wd ≤ p * 65536) := by
  have e1 : (a + (iI (wd : Int)).toInt64).toInt = (A : Int) + wd := by
    rw [Int64.toInt_add, hA, Int32.toInt_toInt64, iI_t (by omega), Int.bmod_eq_of_le (by omega) (by omega)]
  have e2 : (((iI p).toInt64) * 65536).toInt = p * 65536 := by
    rw [Int64.toInt_mul, Int32.toInt_toInt64, iI_t (by omega), show (65536 : Int64).toInt = 65536 by decide, Int.bmod_eq_of_le (by omega) (by omega)]
  have e3 : (65536 * ((iI p).toInt64)).toInt = p * 65536 := by
    rw [Int64.toInt_mul, Int32.toInt_toInt64, iI_t (by omega), show (65536 : Int64).toInt = 65536 by decide, Int.bmod_eq_of_le (by omega) (by omega)]
    omega
  rw [e1, e2, e3]
  exact ⟨Iff.rfl, Iff.rfl⟩
set_option maxRecDepth 20000 in
theorem s_ld (hfu : 100 < fu) (hX : CX f n C M W1 W3 Wj W5 M1 Mp M3 Mj Ml M5 M6 ct X) (hS : StI X M1 Mp M3 Mj Ml g0 g i b R lt h af rr rl st vs) (hm : MR M6 mb ag my rg) (hi : i < X.e g) (h0 : 0 ≤ sp) (h1 : sp + 1 ≤ 100000) (ho : C.ops i = 40 ∨ C.ops i = 41 ∨ C.ops i = 44 ∨ C.ops i = 45) : SR X M1 Mp M3 Mj Ml M6 n g0 (sp + 1) lt r (f_Ma_takeStep fu C ct W1 W3 Wj W5 mb ag (KMa.mk sp 0 ((i + 1 : Nat) : Int)) (KAs.mk st h) af (C.ops i) i) (f_Mo_step fu r (KMc.mk (X.p g i + 1) n) my rg (KRs.mk vs h) rr rl (KMt.mk f n) M1 M3 Mj M5 M (C.ops i) (X.p g i)) := by
  obtain ⟨x, y, R0, e1, e2, e3, e4, e5, e6, e7⟩ := hS.op hX hi (by omega)
  obtain ⟨d1, d2, d3, d4, d5, d6, d7⟩ := hS.dec hX hi
  obtain ⟨pq, j1, j2, j3, j4, j5⟩ := d7.2.2.2.1 (by omega)
  have hn := hX.2.2.2.2.1
  have hh := hS.2.2.2.2.2.2.2.1
  have ha := hS.2.2.2.2.2.2.2.2.1
  have e3' : memA (hasM M5) (C.ops i) (C.extras i) x = some y := by
    unfold opF at e3
    rw [if_neg (by omega), if_neg (by omega), if_neg (by omega), if_neg (by omega), if_neg (by omega), if_neg (by omega), if_neg (by omega), if_neg (by omega), if_pos (by omega)] at e3
    exact e3
  unfold memA at e3'
  obtain ⟨_, e3'⟩ := ite_some e3'
  rw [if_pos (show C.ops i < 54 by omega)] at e3'
  obtain ⟨z, q2, q3⟩ := omap_some e3'
  obtain ⟨k1, k2, k3, k4, k5⟩ := popA_live q2 e4
  have hty : mTy (C.ops i) = 127 ∨ mTy (C.ops i) = 126 := by
    by_cases c : C.ops i = 41 ∨ C.ops i = 55
    · exact Or.inr (if_pos c)
    · exact Or.inl (if_neg c)
  obtain ⟨y1, y2⟩ := pushA_live (t := mTy (C.ops i)) (x := z.2) (by omega) k4
  rw [q3] at y1 y2
  rw [if_neg (show ¬ mTy (C.ops i) = 0 by omega)] at y2
  have hpos : 0 < h := by rw [e7, tot_cons, k1, List.length_cons]; omega
  have hw := and32_t (st (h - 1))
  have hwl : uL (st (h - 1)) % 2 ^ 32 < 2 ^ 32 := Nat.mod_lt _ (by decide)
  generalize uL (st (h - 1)) % 2 ^ 32 = W at hw hwl
  have hvt : (C.values i).toInt = (uL (C.values i) : Int) := uL_toInt (by omega)
  have hA : ((st (h - 1) &&& 4294967295) + C.values i).toInt = ((W + uL (C.values i) : Nat) : Int) := by
    rw [Int64.toInt_add, hw, hvt, Int.bmod_eq_of_le (by omega) (by omega)]
    omega
  have hwd : wdt (C.ops i) ≤ 8 := by rcases ho with q | q | q | q <;> rw [q] <;> decide
  have hpg := hm.2.1
  obtain ⟨c1, c2⟩ := pg_in (p := rg.pages) hA (by omega) hwd hm.2.2.1 hm.2.2.2.1
  have hvs := ha (h - 1) (by omega)
  by_cases c : ((W + uL (C.values i) : Nat) : Int) + wdt (C.ops i) ≤ rg.pages * 65536
  · obtain ⟨w, w1, w2, w3⟩ := ld_loop (fu := fu) (mb := mb) (my := my) (x27 := (r, KMc.mk (X.p g (i + 1)) n, C.values i)) (x33 := (KRs.mk vs ((h - 1 : Nat) : Int), vs (h - 1))) hA (by show (vs (h - 1) &&& 4294967295) + C.values i = _; rw [hvs]) (fun k hk => (hm.1 k hk).1) (wdt (C.ops i)) fu fu 0 (by have := hm.2.2.2.1; omega) (by omega) (by omega)
    have hcv : mTy (C.ops i) = 127 → R32 (cvt (C.ops i) w).toInt := by
      intro q
      rcases ho with o | o | o | o
      · rw [o]; exact r32_i _
      · rw [o] at q; exact absurd q (by decide)
      · rw [o]; exact r32_i _
      · rw [o] at w3 ⊢
        have h9 : w = _ := w3 rfl rfl
        show R32 w.toInt
        rw [h9, ← byt]
        exact r32_i _
    refine sr_push (h' := h - 1) (l := [z.1]) (l' := z.2.1) (t := mTy (C.ops i)) (v := cvt (C.ops i) w) (v' := cvt (C.ops i) w) hS e1 hi e5 e2 y1 k1 y2 rfl hcv rfl rfl hm ?_ ?_
    · rw [tk_mem h0 h1 (by omega) (by omega), cm_ld (w := w) d1 ho hpos hh (fun _ => w1), hpg, if_pos (c1.mpr c), cm_push, if_pos (by omega)]
      rfl
    · rw [ms_mem (Or.inl (by omega)), rm_ld (w := w) (by omega) j1 j4 d4 hn ho hpos hh (fun _ => w2), hvs, if_pos (c2.mpr c), rm_push (by omega), if_pos (by omega)]
      rfl
  · refine sr_no (af := af) (c := 6) (nx := ((i + 1 : Nat) : Int)) (as := KAs.mk st ((h - 1 : Nat) : Int)) (mc := KMc.mk (X.p g (i + 1)) n) (rs := KRs.mk vs ((h - 1 : Nat) : Int)) (rr' := rr) (rl' := rl) (by decide) hm ?_ ?_
    · rw [tk_mem h0 h1 (by omega) (by omega), cm_ld (w := 0) d1 ho hpos hh (fun q => absurd (c1.mp (by rw [← hpg]; exact q)) c), hpg, if_neg (fun q => c (c1.mp q)), obind_ret]
    · rw [ms_mem (Or.inl (by omega)), rm_ld (w := 0) (by omega) j1 j4 d4 hn ho hpos hh (fun q => absurd (c2.mp (by rw [← hvs]; exact q)) c), hvs, if_neg (fun q => c (c2.mp q)), obind2_thr]
end LDS
