section STR
variable {fu h : Nat} {f : Nat → Int32} {n r : Int} {M5 : KM5} {vs : Nat → Int64} {my my' : KMy} {rg : KRg} {o : Int}
set_option maxRecDepth 20000 in
theorem rm_st {p q1 q : Int} {e : Int} {v : Int64} (hfu : 10 < fu) (hI : Idx f p q1 e) (hC : Cnt f q1 q v) (hq : q ≤ n) (hn : n ≤ 2000) (ho : o = 54 ∨ o = 55 ∨ o = 58) (hpos : 1 < h) (hh : h ≤ 12096) (hl : (((vs (h - 2) &&& 4294967295) + v) + (iI (wdt o : Int)).toInt64).toInt ≤ (65536 * ((iI rg.pages).toInt64)).toInt → L241_Mo_memoryStep fu (r, KMc.mk q n, v) (wdt o : Int) (KRs.mk vs ((h - 1 : Nat) : Int), vs (h - 1)) (KRs.mk vs ((h - 2 : Nat) : Int), vs (h - 2)) fu my 0 = .ret (my', (wdt o : Int))) : f_Mo_memoryStep fu r (KMc.mk p n) my rg (KRs.mk vs h) (KMt.mk f n) M5 o = if (((vs (h - 2) &&& 4294967295) + v) + (iI (wdt o : Int)).toInt64).toInt ≤ (65536 * ((iI rg.pages).toInt64)).toInt then .ret (r, KMc.mk q n, my', rg, KRs.mk vs ((h - 2 : Nat) : Int)) else .thr (6, KMc.mk q n, my, rg, KRs.mk vs ((h - 2 : Nat) : Int)) := by
  have hq1 := hC.2.1
  have v1 : f_Mo_ends r false 6 = .ret r := rfl
  have v2 : f_Mo_ends r true 6 = .thr 6 := rfl
  unfold f_Mo_memoryStep
  simp only [jp]
  rcases ho with s | s | s
  all_goals
    subst s
    simp only [Int.reduceEq, Int.reduceLT, reduceIte]
    rw [hI.2.2 fu r n n (by omega) (by omega) hn, obind2_ret]
    dsimp only
    rw [hC.2.2 fu r n n (by omega) hq hn, obind2_ret]
    dsimp only
    rw [rm_pop (by omega) hh, obind_ret]
    dsimp only
    rw [rm_pop (by omega) (by omega), obind_ret, show h - 1 - 1 = h - 2 by omega]
    dsimp only
    rw [v1, v2, obind2_ret, obind2_thr]
  · rw [show ((wdt 54 : Nat) : Int) = 4 from rfl] at hl ⊢
    by_cases c : (((vs (h - 2) &&& 4294967295) + v) + (iI (4 : Int)).toInt64).toInt ≤ (65536 * ((iI rg.pages).toInt64)).toInt
    · rw [if_pos c, if_pos c, hl c, obind2_ret]
    · rw [if_neg c, if_neg c]
  · rw [show ((wdt 55 : Nat) : Int) = 8 from rfl] at hl ⊢
    by_cases c : (((vs (h - 2) &&& 4294967295) + v) + (iI (8 : Int)).toInt64).toInt ≤ (65536 * ((iI rg.pages).toInt64)).toInt
    · rw [if_pos c, if_pos c, hl c, obind2_ret]
    · rw [if_neg c, if_neg c]
  · rw [show ((wdt 58 : Nat) : Int) = 1 from rfl] at hl ⊢
    by_cases c : (((vs (h - 2) &&& 4294967295) + v) + (iI (1 : Int)).toInt64).toInt ≤ (65536 * ((iI rg.pages).toInt64)).toInt
    · rw [if_pos c, if_pos c, hl c, obind2_ret]
    · rw [if_neg c, if_neg c]
end STR
