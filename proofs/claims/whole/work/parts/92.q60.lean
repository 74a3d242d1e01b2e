/-! RUN: loads, whole -/
abbrev wdt (o : Int) : Nat := if o = 41 ∨ o = 55 then 8 else if o = 40 ∨ o = 54 then 4 else 1
abbrev cvt (o : Int) (w : Int64) : Int64 := if o = 40 then w.toInt32.toInt64 else if o = 44 then w.toInt32.toInt8.toInt32.toInt64 else w
section LDW
variable {fu g0 g i b lt h : Nat} {f : Nat → Int32} {n sp r : Int} {C : KCo} {M : KMe} {W1 : KW1} {W3 : KW3} {Wj : KWj} {W5 : KW5} {M1 : KM1} {Mp : KMp} {M3 : KM3} {Mj : KMj} {Ml : KMl} {M5 : KM5} {M6 : KM6} {ct : KCt} {X : SP} {R : List (Nat × Nat × Nat)} {af : KAf} {rr : KRr} {rl : KRl} {st vs : Nat → Int64} {mb : KMb} {ag : KAg} {my : KMy} {rg : KRg} {o : Int} {w : Int64}
set_option maxRecDepth 20000 in
theorem cm_ld {ma : KMa} (hi : i < 2000) (ho : o = 40 ∨ o = 41 ∨ o = 44 ∨ o = 45) (hpos : 0 < h) (hh : h ≤ 12096) (hl : (((st (h - 1) &&& 4294967295) + C.values i) + (iI (wdt o : Int)).toInt64).toInt ≤ (((iI ag.pages).toInt64) * 65536).toInt → L26_Ma_load fu mb ((st (h - 1) &&& 4294967295) + C.values i) fu 0 ((wdt o : Int) - 1) = .ret (w, -1)) : f_Ma_performMemory fu C W5 mb ag ma (KAs.mk st h) o i = if (((st (h - 1) &&& 4294967295) + C.values i) + (iI (wdt o : Int)).toInt64).toInt ≤ (((iI ag.pages).toInt64) * 65536).toInt then obind (f_Ma_push ma (KAs.mk st ((h - 1 : Nat) : Int)) (cvt o w)) (fun x => .ret (mb, ag, x.1, x.2)) else .ret (mb, ag, KMa.mk ma.steps 6 ma.next, KAs.mk st ((h - 1 : Nat) : Int)) := by
  have e : f_Op_width o = .ret (wdt o : Int) ∧ f_Op_isLoad o = .ret true := by rcases ho with q | q | q | q <;> subst q <;> exact ⟨rfl, rfl⟩
  unfold f_Ma_performMemory
  simp only [jp]
  rw [if_neg (show ¬ o = 63 by omega), if_neg (show ¬ o = 64 by omega), e.2, obind_ret, if_pos rfl, cm_pop hpos hh, obind_ret]
  dsimp only
  rw [if_pos (show (0 : Int) ≤ (i : Int) ∧ (i : Int) < 2000 by omega), Int.toNat_natCast]
  unfold f_Ma_load f_Ma_isInside
  rw [e.1, obind_ret]
  by_cases c : (((st (h - 1) &&& 4294967295) + C.values i) + (iI (wdt o : Int)).toInt64).toInt ≤ (((iI ag.pages).toInt64) * 65536).toInt
  · rw [if_pos c, if_pos c, obind_ret]
    dsimp only
    rw [if_pos rfl, if_pos (show R32 ((wdt o : Int) - 1) by rcases ho with q | q | q | q <;> subst q <;> decide), hl c, obind_ret]
    simp only [jp]
    rcases ho with q | q | q | q <;> subst q <;> simp only [Int.reduceEq, reduceIte, cm_push] <;> by_cases ch : h - 1 < 12096 <;> simp only [ch, reduceIte, obind_ret] <;> rfl
  · rw [if_neg c, if_neg c, obind_ret]
    dsimp only
    rw [if_neg Bool.false_ne_true, obind_ret]
set_option maxRecDepth 20000 in
theorem rm_ld {p q1 q : Int} {e : Int} {v : Int64} (hfu : 10 < fu) (hI : Idx f p q1 e) (hC : Cnt f q1 q v) (hq : q ≤ n) (hn : n ≤ 2000) (ho : o = 40 ∨ o = 41 ∨ o = 44 ∨ o = 45) (hpos : 0 < h) (hh : h ≤ 12096) (hl : (((vs (h - 1) &&& 4294967295) + v) + (iI (wdt o : Int)).toInt64).toInt ≤ (65536 * ((iI rg.pages).toInt64)).toInt → L281_Mo_memoryStep fu my (r, KMc.mk q n, v) (KRs.mk vs ((h - 1 : Nat) : Int), vs (h - 1)) fu 0 ((wdt o : Int) - 1) = .ret (w, -1)) : f_Mo_memoryStep fu r (KMc.mk p n) my rg (KRs.mk vs h) (KMt.mk f n) M5 o = if (((vs (h - 1) &&& 4294967295) + v) + (iI (wdt o : Int)).toInt64).toInt ≤ (65536 * ((iI rg.pages).toInt64)).toInt then obind2 (f_Mo_pushValue r (KRs.mk vs ((h - 1 : Nat) : Int)) (cvt o w)) (fun x => .ret (x.1, KMc.mk q n, my, rg, x.2)) (fun x => .thr (x.1, KMc.mk q n, my, rg, x.2)) else .thr (6, KMc.mk q n, my, rg, KRs.mk vs ((h - 1 : Nat) : Int)) := by
  have hq1 := hC.2.1
  have v1 : f_Mo_ends r false 6 = .ret r := rfl
  have v2 : f_Mo_ends r true 6 = .thr 6 := rfl
  unfold f_Mo_memoryStep
  simp only [jp]
  rcases ho with s | s | s | s
  all_goals
    subst s
    simp only [Int.reduceEq, Int.reduceLT, reduceIte]
    rw [hI.2.2 fu r n n (by omega) (by omega) hn, obind2_ret]
    dsimp only
    rw [hC.2.2 fu r n n (by omega) hq hn, obind2_ret]
    dsimp only
    rw [rm_pop hpos hh, obind_ret]
    dsimp only
    rw [v1, v2, obind2_ret, obind2_thr]
  · rw [show ((wdt 40 : Nat) : Int) = 4 from rfl] at hl ⊢
    by_cases c : (((vs (h - 1) &&& 4294967295) + v) + (iI (4 : Int)).toInt64).toInt ≤ (65536 * ((iI rg.pages).toInt64)).toInt
    · rw [if_pos c, if_pos c, if_pos (by decide)]; rw [hl c, obind2_ret] <;> rfl
    · rw [if_neg c, if_neg c]
  · rw [show ((wdt 41 : Nat) : Int) = 8 from rfl] at hl ⊢
    by_cases c : (((vs (h - 1) &&& 4294967295) + v) + (iI (8 : Int)).toInt64).toInt ≤ (65536 * ((iI rg.pages).toInt64)).toInt
    · rw [if_pos c, if_pos c, if_pos (by decide)]; rw [hl c, obind2_ret] <;> rfl
    · rw [if_neg c, if_neg c]
  · rw [show ((wdt 44 : Nat) : Int) = 1 from rfl] at hl ⊢
    by_cases c : (((vs (h - 1) &&& 4294967295) + v) + (iI (1 : Int)).toInt64).toInt ≤ (65536 * ((iI rg.pages).toInt64)).toInt
    · rw [if_pos c, if_pos c, if_pos (by decide)]; rw [hl c, obind2_ret] <;> rfl
    · rw [if_neg c, if_neg c]
  · rw [show ((wdt 45 : Nat) : Int) = 1 from rfl] at hl ⊢
    by_cases c : (((vs (h - 1) &&& 4294967295) + v) + (iI (1 : Int)).toInt64).toInt ≤ (65536 * ((iI rg.pages).toInt64)).toInt
    · rw [if_pos c, if_pos c, if_pos (by decide)]; rw [hl c, obind2_ret] <;> rfl
    · rw [if_neg c, if_neg c]
end LDW
