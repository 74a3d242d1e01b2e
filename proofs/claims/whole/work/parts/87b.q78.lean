/-! FACES: count, global, memory, find -/
section FCB
variable {fu : Nat} {so : KSo} {wr : KWr} {mi : KMi} {ou : KOu} {W3 : KW3} {W6 : KW6} {ag : KAg} {ma : KMa} {mb : KMb} {rg : KRg} {rq : KRq} {my : KMy} {M3 : KM3} {M6 : KM6}
set_option maxRecDepth 20000 in
theorem p_count (h : TP so wr mi) (hL : mi.there = true → W3.functionCount = M3.functions ∧ W6.globalCount = M6.globals ∧ ag.pages = rg.pages) (hs : ma.steps = rq.steps) (n : Int) : ∃ (ou' : KOu) (mi' : KMi) (k x : Int), f_La_count W3 W6 ag ma wr ou n = .ret (ou', k) ∧ f_Mo_count1 rg rq mi M3 M6 n = .ret (mi', x) ∧ TP so wr mi' ∧ mi'.code = k ∧ (k = 0 → ou'.out_ 0 = (iI x).toInt64) ∧ mi'.there = mi.there ∧ mi'.arguments = mi.arguments := by
  obtain ⟨t1, t2, t3, t4, t5, t6, t7, t8, t9⟩ := h
  unfold f_La_count f_WR_count f_Mo_count1
  simp only [jp]
  rw [t2, t5, t8, t9, hs]
  by_cases cn : n < 0 ∨ 6 < n
  · rw [if_neg (by omega), if_neg (by omega), if_neg (by omega), if_neg (by omega), if_neg (by omega), if_neg (by omega), if_neg (by omega), obind2_thr, if_pos rfl]
    refine ⟨ou, KMi.mk mi.tape mi.taped mi.there mi.reason mi.arguments mi.argumentCount 1, 1, 0, rfl, ?_, ⟨t1, t2, t3, t4, t5, t6, t7, t8, t9⟩, rfl, fun q => absurd q (by decide), rfl, rfl⟩
    by_cases c1 : n < 0
    · rw [if_pos c1, mo_good, obind_ret]
      dsimp only
      rw [if_neg Bool.false_ne_true, if_neg Bool.false_ne_true]
    · rw [if_neg c1, if_pos (show 6 < n by omega), mo_good, obind_ret]
      dsimp only
      rw [if_neg Bool.false_ne_true, if_neg Bool.false_ne_true]
  · rw [if_neg (show ¬ n < 0 by omega), if_neg (show ¬ 6 < n by omega), mo_good, obind_ret]
    dsimp only
    rw [if_pos rfl, if_pos rfl]
    have hT : TP so wr (KMi.mk mi.tape mi.taped mi.there mi.reason mi.arguments mi.argumentCount 0) := ⟨t1, t2, t3, t4, t5, t6, t7, t8, t9⟩
    have fin : ∀ (Fc : Out Nat Int) (Gr : Out Empty (KMi × Int)) (x : Int), Fc = .ret x → Gr = .ret (KMi.mk mi.tape mi.taped mi.there mi.reason mi.arguments mi.argumentCount 0, x) → ∃ (ou' : KOu) (mi' : KMi) (k x : Int), obind2 Fc (fun x_1 => if 0 ≤ (0 : Int) ∧ (0 : Int) < 1 then (.ret (KOu.mk (vp_updL ou.out_ (0 : Int).toNat ((iI x_1).toInt64)), 0) : Out Empty (KOu × Int)) else .bad) (fun x_1 => if x_1 = 14 then .ret (ou, 1) else .bad) = .ret (ou', k) ∧ Gr = .ret (mi', x) ∧ TP so wr mi' ∧ mi'.code = k ∧ (k = 0 → ou'.out_ 0 = (iI x).toInt64) ∧ mi'.there = mi.there ∧ mi'.arguments = mi.arguments := fun Fc Gr x e1 e2 => by
      rw [e1, obind2_ret, if_pos (by decide)]
      exact ⟨_, _, 0, x, rfl, e2, hT, rfl, fun _ => o_0, rfl, rfl⟩
    rcases (show n = 0 ∨ n = 1 ∨ n = 2 ∨ n = 3 ∨ n = 4 ∨ n = 5 ∨ n = 6 by omega) with q | q | q | q | q | q | q <;> subst q <;> simp only [Int.reduceEq, reduceIte]
    · exact fin _ _ mi.taped rfl rfl
    · exact fin _ _ mi.reason rfl rfl
    · by_cases c : mi.there = true
      · exact fin _ _ M3.functions (by rw [if_pos c, (hL c).1]) (by rw [if_pos c])
      · exact fin _ _ (-1) (by rw [if_neg c]) (by rw [if_neg c])
    · by_cases c : mi.there = true
      · exact fin _ _ M6.globals (by rw [if_pos c, (hL c).2.1]) (by rw [if_pos c])
      · exact fin _ _ (-1) (by rw [if_neg c]) (by rw [if_neg c])
    · by_cases c : mi.there = true
      · exact fin _ _ rg.pages (by rw [if_pos c, (hL c).2.2]) (by rw [if_pos c])
      · exact fin _ _ (-1) (by rw [if_neg c]) (by rw [if_neg c])
    · exact fin _ _ rq.steps rfl rfl
    · exact fin _ _ mi.argumentCount rfl rfl
set_option maxRecDepth 20000 in
theorem rq_m : f_WR_requireModule wr = if wr.loaded = true then .ret () else .thr 16 := rfl
set_option maxRecDepth 20000 in
theorem rq_r {n b : Int} : f_WR_requireRange n b = if 0 ≤ n ∧ n < b then .ret () else .thr 14 := by
  unfold f_WR_requireRange
  simp only [jp]
  by_cases c : n < 0
  · rw [if_pos c, if_neg (by omega)]
  · rw [if_neg c]
    by_cases c2 : n < b
    · rw [if_pos c2, if_pos (by omega)]
    · rw [if_neg c2, if_neg (by omega)]
set_option maxRecDepth 20000 in
theorem p_global (h : TP so wr mi) (hL : mi.there = true → W6.globalCount = M6.globals ∧ M6.globals ≤ 20 ∧ ∀ k, k < 20 → ag.globals k = rg.globals k) (n : Int) : ∃ (ou' : KOu) (mi' : KMi) (k : Int) (x : Int64), f_La_global W6 ag wr ou n = .ret (ou', k) ∧ f_Mo_global rg mi M6 n = .ret (mi', x) ∧ TP so wr mi' ∧ mi'.code = k ∧ (k = 0 → ou'.out_ 0 = x) ∧ mi'.there = mi.there ∧ mi'.arguments = mi.arguments := by
  obtain ⟨t1, t2, t3, t4, t5, t6, t7, t8, t9⟩ := h
  unfold f_La_global f_WR_global f_Mo_global
  simp only [jp]
  rw [rq_m, t8, mo_good, obind_ret]
  dsimp only
  by_cases c : mi.there = true
  · obtain ⟨l1, l2, l3⟩ := hL c
    simp only [if_pos c]
    rw [obind2_ret, rq_r, l1]
    by_cases cn : 0 ≤ n ∧ n < M6.globals
    · rw [if_pos cn, obind2_ret, if_pos (show 0 ≤ n ∧ n < 20 by omega), obind2_ret, if_pos (by decide), if_neg (show ¬ n < 0 by omega), if_neg (show ¬ M6.globals ≤ n by omega), mo_good, obind_ret]
      dsimp only
      rw [if_pos rfl, if_pos rfl, if_pos (show 0 ≤ n ∧ n < 20 by omega)]
      exact ⟨_, _, 0, _, rfl, rfl, ⟨t1, t2, t3, t4, t5, t6, t7, t8, t9⟩, rfl, fun _ => by rw [o_0]; exact l3 _ (by omega), rfl, rfl⟩
    · rw [if_neg cn, obind2_thr, obind2_thr, if_pos rfl]
      refine ⟨ou, KMi.mk mi.tape mi.taped mi.there mi.reason mi.arguments mi.argumentCount 1, 1, 0, rfl, ?_, ⟨t1, t2, t3, t4, t5, t6, t7, t8, t9⟩, rfl, fun q => absurd q (by decide), rfl, rfl⟩
      by_cases c1 : n < 0
      · rw [if_pos c1, mo_good, obind_ret]
        dsimp only
        rw [if_neg Bool.false_ne_true, if_neg Bool.false_ne_true]
      · rw [if_neg c1, if_pos (show M6.globals ≤ n by omega), mo_good, obind_ret]
        dsimp only
        rw [if_neg Bool.false_ne_true, if_neg Bool.false_ne_true]
  · simp only [if_neg c]
    rw [obind2_thr, obind2_thr, if_neg (by decide), if_pos rfl]
    exact ⟨ou, KMi.mk mi.tape mi.taped mi.there mi.reason mi.arguments mi.argumentCount 2, 2, 0, rfl, rfl, ⟨t1, t2, t3, t4, t5, t6, t7, t8, t9⟩, rfl, fun q => absurd q (by decide), rfl, rfl⟩
set_option maxRecDepth 20000 in
theorem p_memory (h : TP so wr mi) (hL : mi.there = true → ag.pages = rg.pages ∧ 0 ≤ rg.pages ∧ rg.pages ≤ 2 ∧ ∀ k, k < 131072 → mb.bytes k = my.memory k) (n : Int) : ∃ (ou' : KOu) (mi' : KMi) (k x : Int), f_La_memory mb ag wr ou n = .ret (ou', k) ∧ f_Mo_memory my rg mi n = .ret (mi', x) ∧ TP so wr mi' ∧ mi'.code = k ∧ (k = 0 → ou'.out_ 0 = (iI x).toInt64) ∧ mi'.there = mi.there ∧ mi'.arguments = mi.arguments := by
  obtain ⟨t1, t2, t3, t4, t5, t6, t7, t8, t9⟩ := h
  unfold f_La_memory f_WR_memory f_Mo_memory
  simp only [jp]
  rw [rq_m, t8, mo_good, obind_ret]
  dsimp only
  by_cases c : mi.there = true
  · obtain ⟨l1, l2, l3, l4⟩ := hL c
    simp only [if_pos c]
    rw [obind2_ret, l1, if_pos (show R32 (rg.pages * 65536) by omega), rq_r, if_pos (show R32 (65536 * rg.pages) by omega)]
    by_cases cn : 0 ≤ n ∧ n < rg.pages * 65536
    · rw [if_pos cn, obind2_ret, if_pos (show 0 ≤ n ∧ n < 131072 by omega), obind2_ret, if_pos (by decide), if_neg (show ¬ n < 0 by omega), if_neg (show ¬ 65536 * rg.pages ≤ n by omega), mo_good, obind_ret]
      dsimp only
      rw [if_pos rfl, if_pos rfl, if_pos (show 0 ≤ n ∧ n < 131072 by omega)]
      exact ⟨_, _, 0, _, rfl, rfl, ⟨t1, t2, t3, t4, t5, t6, t7, t8, t9⟩, rfl, fun _ => by rw [o_0, l4 _ (by omega)], rfl, rfl⟩
    · rw [if_neg cn, obind2_thr, obind2_thr, if_pos rfl]
      refine ⟨ou, KMi.mk mi.tape mi.taped mi.there mi.reason mi.arguments mi.argumentCount 1, 1, 0, rfl, ?_, ⟨t1, t2, t3, t4, t5, t6, t7, t8, t9⟩, rfl, fun q => absurd q (by decide), rfl, rfl⟩
      by_cases c1 : n < 0
      · rw [if_pos c1, mo_good, obind_ret]
        dsimp only
        rw [if_neg Bool.false_ne_true, if_neg Bool.false_ne_true]
      · rw [if_neg c1, if_pos (show 65536 * rg.pages ≤ n by omega), mo_good, obind_ret]
        dsimp only
        rw [if_neg Bool.false_ne_true, if_neg Bool.false_ne_true]
  · simp only [if_neg c]
    rw [obind2_thr, obind2_thr, if_neg (by decide), if_pos rfl]
    exact ⟨ou, KMi.mk mi.tape mi.taped mi.there mi.reason mi.arguments mi.argumentCount 2, 2, 0, rfl, rfl, ⟨t1, t2, t3, t4, t5, t6, t7, t8, t9⟩, rfl, fun q => absurd q (by decide), rfl, rfl⟩
end FCB
