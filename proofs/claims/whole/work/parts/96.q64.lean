/-! RUN: a store, each machine -/
section STW
variable {fu i h : Nat} {C : KCo} {W5 : KW5} {st : Nat → Int64} {mb mb' : KMb} {ag : KAg} {o : Int}
set_option maxRecDepth 20000 in
theorem cm_st {ma : KMa} (hi : i < 2000) (ho : o = 54 ∨ o = 55 ∨ o = 58) (hpos : 1 < h) (hh : h ≤ 12096) (hl : (((st (h - 2) &&& 4294967295) + C.values i) + (iI (wdt o : Int)).toInt64).toInt ≤ (((iI ag.pages).toInt64) * 65536).toInt → L25_Ma_store fu ((st (h - 2) &&& 4294967295) + C.values i) (st (h - 1)) (wdt o : Int) fu mb 0 = .ret (mb', (wdt o : Int))) : f_Ma_performMemory fu C W5 mb ag ma (KAs.mk st h) o i = if (((st (h - 2) &&& 4294967295) + C.values i) + (iI (wdt o : Int)).toInt64).toInt ≤ (((iI ag.pages).toInt64) * 65536).toInt then .ret (mb', KAg.mk true ag.pages ag.globals, ma, KAs.mk st ((h - 2 : Nat) : Int)) else .ret (mb, ag, KMa.mk ma.steps 6 ma.next, KAs.mk st ((h - 2 : Nat) : Int)) := by
  have e : f_Op_width o = .ret (wdt o : Int) ∧ f_Op_isLoad o = .ret false := by rcases ho with q | q | q <;> subst q <;> exact ⟨rfl, rfl⟩
  unfold f_Ma_performMemory
  simp only [jp]
  rw [if_neg (show ¬ o = 63 by omega), if_neg (show ¬ o = 64 by omega), e.2, obind_ret, if_neg Bool.false_ne_true, cm_pop (by omega) hh, obind_ret]
  dsimp only
  rw [cm_pop (by omega) (by omega), obind_ret]
  dsimp only
  rw [if_pos (show (0 : Int) ≤ (i : Int) ∧ (i : Int) < 2000 by omega), Int.toNat_natCast, show h - 1 - 1 = h - 2 by omega]
  unfold f_Ma_store f_Ma_isInside
  rw [e.1, obind_ret]
  by_cases c : (((st (h - 2) &&& 4294967295) + C.values i) + (iI (wdt o : Int)).toInt64).toInt ≤ (((iI ag.pages).toInt64) * 65536).toInt
  · rw [if_pos c, if_pos c, obind_ret]
    dsimp only
    rw [if_pos rfl, hl c, obind_ret, obind_ret]
  · rw [if_neg c, if_neg c, obind_ret]
    dsimp only
    rw [if_neg Bool.false_ne_true, obind_ret]
end STW
