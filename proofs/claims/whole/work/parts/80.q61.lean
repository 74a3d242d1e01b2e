/-! RUN: loads in step -/
set_option maxRecDepth 20000 in
theorem r32_i (x : Int32) : R32 (x.toInt64).toInt := by
  rw [Int32.toInt_toInt64]
  have := Int32.le_toInt x
  have := Int32.toInt_lt x
  omega
section LDS
variable {fu g0 g i b lt h : Nat} {f : Nat → Int32} {n sp r : Int} {C : KCo} {M : KMe} {W1 : KW1} {W3 : KW3} {Wj : KWj} {W5 : KW5} {M1 : KM1} {Mp : KMp} {M3 : KM3} {Mj : KMj} {Ml : KMl} {M5 : KM5} {M6 : KM6} {ct : KCt} {X : SP} {R : List (Nat × Nat × Nat)} {af : KAf} {rr : KRr} {rl : KRl} {st vs : Nat → Int64} {mb : KMb} {ag : KAg} {my : KMy} {rg : KRg}
set_option maxRecDepth 20000 in
theorem pg_in {a : Int64} {A wd : Nat} {p : Int} (hA : a.toInt = A) (hA2 : A < 2 ^ 34) (hw : wd ≤ 8) (hp0 : 0 ≤ p) (hp2 : p ≤ 2) : ((a + (iI (wd : Int)).toInt64).toInt ≤ (((iI p).toInt64) * 65536).toInt ↔ (A : Int) + wd ≤ p * 65536) ∧ ((a + (iI (wd : Int)).toInt64).toInt ≤ (65536 * ((iI p).toInt64)).toInt ↔ (A : Int) + wd ≤ p * 65536) := by
  have e1 : (a + (iI (wd : Int)).toInt64).toInt = (A : Int) + wd := by
    rw [Int64.toInt_add, hA, Int32.toInt_toInt64, iI_t (by omega), Int.bmod_eq_of_le (by omega) (by omega)]
  have e2 : (((iI p).toInt64) * 65536).toInt = p * 65536 := by
    rw [Int64.toInt_mul, Int32.toInt_toInt64, iI_t (by omega), show (65536 : Int64).toInt = 65536 by decide, Int.bmod_eq_of_le (by omega) (by omega)]
  have e3 : (65536 * ((iI p).toInt64)).toInt = p * 65536 := by
    rw [Int64.toInt_mul, Int32.toInt_toInt64, iI_t (by omega), show (65536 : Int64).toInt = 65536 by decide, Int.bmod_eq_of_le (by omega) (by omega)]
    omega
  rw [e1, e2, e3]
  exact ⟨Iff.rfl, Iff.rfl⟩
set_option maxRecDepth 20000 in
theorem s_ld (hfu : 100 < fu) (hX : CX f n C M W1 W3 Wj W5 M1 Mp M3 Mj Ml M5 M6 ct X) (hS : StI X M1 Mp M3 Mj Ml g0 g i b R lt h af rr rl st vs) (hm : MR M6 mb ag my rg) (hi : i < X.e g) (h0 : 0 ≤ sp) (h1 : sp + 1 ≤ 100000) (ho : C.ops i = 40 ∨ C.ops i = 41 ∨ C.ops i = 44 ∨ C.ops i = 45) : SR X M1 Mp M3 Mj Ml M6 n g0 (sp + 1) lt r (f_Ma_takeStep fu C ct W1 W3 Wj W5 mb ag (KMa.mk sp 0 ((i + 1 : Nat) : Int)) (KAs.mk st h) af (C.ops i) i) (f_Mo_step fu r (KMc.mk (X.p g i + 1) n) my rg (KRs.mk vs h) rr rl (KMt.mk f n) M1 M3 Mj M5 M (C.ops i) (X.p g i)) := by
  obtain ⟨x, y, R0, e1, e2, e3, e4, e5, e6, e7⟩ := hS.op hX hi (by omega)
  obtain ⟨d1, d2, d3, d4, d5, d6, d7⟩ := hS.dec hX hi
  obtain ⟨pq, j1, j2, j3, j4, j5⟩ := d7.2.2.2.1 (by omega)
  have hn := hX.2.2.2.2.1
  have hh := hS.2.2.2.2.2.2.2.1
  have ha := hS.2.2.2.2.2.2.2.2.1
  have e3' : memA (hasM M5) (C.ops i) (C.extras i) x = some y := by
    unfold opF at e3
    rw [if_neg (by omega), if_neg (by omega), if_neg (by omega), if_neg (by omega), if_neg (by omega), if_neg (by omega), if_neg (by omega), if_neg (by omega), if_pos (by omega)] at e3
    exact e3
  unfold memA at e3'
  obtain ⟨_, e3'⟩ := ite_some e3'
  rw [if_pos (show C.ops i < 54 by omega)] at e3'
  obtain ⟨z, q2, q3⟩ := omap_some e3'
  obtain ⟨k1, k2, k3, k4, k5⟩ := popA_live q2 e4
  have hty : mTy (C.ops i) = 127 ∨ mTy (C.ops i) = 126 := by
    by_cases c : C.ops i = 41 ∨ C.ops i = 55
    · exact Or.inr (if_pos c)
    · exact Or.inl (if_neg c)
  obtain ⟨y1, y2⟩ := pushA_live (t := mTy (C.ops i)) (x := z.2) (by omega) k4
  rw [q3] at y1 y2
  rw [if_neg (show ¬ mTy (C.ops i) = 0 by omega)] at y2
  have hpos : 0 < h := by rw [e7, tot_cons, k1, List.length_cons]; omega
  have hw := and32_t (st (h - 1))
  have hwl : uL (st (h - 1)) % 2 ^ 32 < 2 ^ 32 := Nat.mod_lt _ (by decide)
  generalize uL (st (h - 1)) % 2 ^ 32 = W at hw hwl
  have hvt : (C.values i).toInt = (uL (C.values i) : Int) := uL_toInt (by omega)
  have hA : ((st (h - 1) &&& 4294967295) + C.values i).toInt = ((W + uL (C.values i) : Nat) : Int) := by
    rw [Int64.toInt_add, hw, hvt, Int.bmod_eq_of_le (by omega) (by omega)]
    omega
  have hwd : wdt (C.ops i) ≤ 8 := by rcases ho with q | q | q | q <;> rw [q] <;> decide
  have hpg := hm.2.1
  obtain ⟨c1, c2⟩ := pg_in (p := rg.pages) hA (by omega) hwd hm.2.2.1 hm.2.2.2.1
  have hvs := ha (h - 1) (by omega)
  by_cases c : ((W + uL (C.values i) : Nat) : Int) + wdt (C.ops i) ≤ rg.pages * 65536
  · obtain ⟨w, w1, w2, w3⟩ := ld_loop (fu := fu) (mb := mb) (my := my) (x27 := (r, KMc.mk (X.p g (i + 1)) n, C.values i)) (x33 := (KRs.mk vs ((h - 1 : Nat) : Int), vs (h - 1))) hA (by show (vs (h - 1) &&& 4294967295) + C.values i = _; rw [hvs]) (fun k hk => (hm.1 k hk).1) (wdt (C.ops i)) fu fu 0 (by have := hm.2.2.2.1; omega) (by omega) (by omega)
    have hcv : mTy (C.ops i) = 127 → R32 (cvt (C.ops i) w).toInt := by
      intro q
      rcases ho with o | o | o | o
      · rw [o]; exact r32_i _
      · rw [o] at q; exact absurd q (by decide)
      · rw [o]; exact r32_i _
      · rw [o] at w3 ⊢
        have h9 : w = _ := w3 rfl rfl
        show R32 w.toInt
        rw [h9, ← byt]
        exact r32_i _
    refine sr_push (h' := h - 1) (l := [z.1]) (l' := z.2.1) (t := mTy (C.ops i)) (v := cvt (C.ops i) w) (v' := cvt (C.ops i) w) hS e1 hi e5 e2 y1 k1 y2 rfl hcv rfl rfl hm ?_ ?_
    · rw [tk_mem h0 h1 (by omega) (by omega), cm_ld (w := w) d1 ho hpos hh (fun _ => w1), hpg, if_pos (c1.mpr c), cm_push, if_pos (by omega)]
      rfl
    · rw [ms_mem (Or.inl (by omega)), rm_ld (w := w) (by omega) j1 j4 d4 hn ho hpos hh (fun _ => w2), hvs, if_pos (c2.mpr c), rm_push (by omega), if_pos (by omega)]
      rfl
  · refine sr_no (af := af) (c := 6) (nx := ((i + 1 : Nat) : Int)) (as := KAs.mk st ((h - 1 : Nat) : Int)) (mc := KMc.mk (X.p g (i + 1)) n) (rs := KRs.mk vs ((h - 1 : Nat) : Int)) (rr' := rr) (rl' := rl) (by decide) hm ?_ ?_
    · rw [tk_mem h0 h1 (by omega) (by omega), cm_ld (w := 0) d1 ho hpos hh (fun q => absurd (c1.mp (by rw [← hpg]; exact q)) c), hpg, if_neg (fun q => c (c1.mp q)), obind_ret]
    · rw [ms_mem (Or.inl (by omega)), rm_ld (w := 0) (by omega) j1 j4 d4 hn ho hpos hh (fun q => absurd (c2.mp (by rw [← hvs]; exact q)) c), hvs, if_neg (fun q => c (c2.mp q)), obind2_thr]
end LDS

/-! RUN: stores -/
set_option maxRecDepth 20000 in
theorem sh8_b (v : BitVec 64) (k : Nat) (hk : k ≤ 56) : ((v.sshiftRight k).setWidth 32).setWidth 8 = ((v >>> k).setWidth 32).setWidth 8 := by
  apply BitVec.eq_of_getLsbD_eq
  intro i hi
  rw [BitVec.getLsbD_setWidth, BitVec.getLsbD_setWidth, BitVec.getLsbD_setWidth, BitVec.getLsbD_setWidth, BitVec.getLsbD_sshiftRight, BitVec.getLsbD_ushiftRight]
  have h1 : ¬ 64 ≤ i := by omega
  have h2 : k + i < 64 := by omega
  simp only [h1, h2, decide_false, Bool.not_false, Bool.true_and, if_true]

set_option maxRecDepth 20000 in
theorem sh8_1 : ∀ k : Fin 8, ((((iI (8 * (k.val : Int))).toInt64 &&& 63).toBitVec.smod 64).toNat) = 8 * k.val := by decide +kernel
set_option maxRecDepth 20000 in
theorem sh8_2 : ∀ k : Fin 8, ((((iI (8 * (k.val : Int))).toInt64.toUInt64 &&& Int64.toUInt64 63).toBitVec % 64).toNat) = 8 * k.val := by decide +kernel
set_option maxRecDepth 20000 in
/-- the byte that a store writes -/
theorem sh8 (v : Int64) (k : Fin 8) : ((v >>> ((iI (8 * (k.val : Int))).toInt64 &&& 63)).toInt32).toInt8.toInt32 = (((v.toUInt64 >>> ((iI (8 * (k.val : Int))).toInt64.toUInt64 &&& Int64.toUInt64 63)).toInt64).toInt32).toInt8.toInt32 := by
  have e1 := sh8_1 k
  have e2 := sh8_2 k
  generalize (iI (8 * (k.val : Int))).toInt64 &&& 63 = s1 at e1
  generalize (iI (8 * (k.val : Int))).toInt64.toUInt64 &&& Int64.toUInt64 63 = s2 at e2
  refine congrArg Int8.toInt32 (Int8.toBitVec_inj.mp ?_)
  rw [Int32.toBitVec_toInt8, Int32.toBitVec_toInt8, Int64.toBitVec_toInt32, Int64.toBitVec_toInt32, Int64.toBitVec_shiftRight, BitVec.sshiftRight_eq', e1, UInt64.toBitVec_toInt64, UInt64.toBitVec_shiftRight, BitVec.ushiftRight_eq', e2, Int64.toBitVec_toUInt64]
  simp only [BitVec.signExtend_eq_setWidth_of_le _ (show 32 ≤ 64 by decide), BitVec.signExtend_eq_setWidth_of_le _ (show 8 ≤ 32 by decide)]
  exact sh8_b _ (8 * k.val) (by omega)
section STL
variable {fu : Nat} {a val : Int64} {A wd : Nat} {x27 : KRf × KMc × Int64} {x33 y31 : KRs × Int64}
set_option maxRecDepth 20000 in
theorem st_loop (hA : a.toInt = A) (hx : (x33.2 &&& 4294967295) + x27.2.2 = a) (hy : y31.2 = val) (hw : wd ≤ 8) (hin : A + wd ≤ 131072) : ∀ (j k n1 n2 : Nat) (mb : KMb) (my : KMy), k + j = wd → j < n1 → j < n2 → (∀ q, q < 131072 → mb.bytes q = my.memory q ∧ -128 ≤ (my.memory q).toInt ∧ (my.memory q).toInt ≤ 127) → ∃ (mb' : KMb) (my' : KMy), L25_Ma_store fu a val wd n1 mb k = .ret (mb', (wd : Int)) ∧ L241_Mo_memoryStep fu x27 wd y31 x33 n2 my k = .ret (my', (wd : Int)) ∧ ∀ q, q < 131072 → mb'.bytes q = my'.memory q ∧ -128 ≤ (my'.memory q).toInt ∧ (my'.memory q).toInt ≤ 127 := by
  intro j
  induction j with
  | zero =>
    intro k n1 n2 mb my hk h1 h2 hm
    obtain ⟨n1, rfl⟩ : ∃ q, n1 = q + 1 := ⟨n1 - 1, by omega⟩
    obtain ⟨n2, rfl⟩ : ∃ q, n2 = q + 1 := ⟨n2 - 1, by omega⟩
    have : k = wd := by omega
    subst this
    exact ⟨mb, my, by rw [L25_Ma_store.eq_2, if_pos (by omega)], by rw [L241_Mo_memoryStep.eq_2, if_pos (by omega)], hm⟩
  | succ j ih =>
    intro k n1 n2 mb my hk h1 h2 hm
    obtain ⟨n1, rfl⟩ : ∃ q, n1 = q + 1 := ⟨n1 - 1, by omega⟩
    obtain ⟨n2, rfl⟩ : ∃ q, n2 = q + 1 := ⟨n2 - 1, by omega⟩
    obtain ⟨b1, b2⟩ := adr (k := k) hA (by omega)
    have hs := sh8 val ⟨k, by omega⟩
    rw [L25_Ma_store.eq_2, if_neg (by omega), if_pos (by omega), b1, if_pos (by omega), if_pos (by omega), Int.toNat_natCast]
    rw [L241_Mo_memoryStep.eq_2, if_neg (by omega), hx, b2, show (A : Int) + (k : Int) = ((A + k : Nat) : Int) by omega, if_pos (by omega), if_pos (by omega), if_pos (by omega), if_pos (by omega), Int.toNat_natCast, hy, ← hs, show (k : Int) + 1 = ((k + 1 : Nat) : Int) by omega]
    refine ih (k + 1) n1 n2 _ _ (by omega) (by omega) (by omega) (fun q hq => ?_)
    generalize ((val >>> ((iI (8 * (k : Int))).toInt64 &&& 63)).toInt32).toInt8 = B
    show upd mb.bytes (A + k) B.toInt32 q = upd my.memory (A + k) B.toInt32 q ∧ -128 ≤ (upd my.memory (A + k) B.toInt32 q).toInt ∧ (upd my.memory (A + k) B.toInt32 q).toInt ≤ 127
    by_cases c : q = A + k
    · rw [c, show ∀ f : Nat → Int32, upd f (A + k) B.toInt32 (A + k) = B.toInt32 from fun f => if_pos rfl, show upd my.memory (A + k) B.toInt32 (A + k) = B.toInt32 from if_pos rfl, Int8.toInt_toInt32]
      have h3 := Int8.le_toInt B
      have h4 := Int8.toInt_lt B
      exact ⟨rfl, by omega, by omega⟩
    · rw [show upd mb.bytes (A + k) B.toInt32 q = mb.bytes q from if_neg c, show upd my.memory (A + k) B.toInt32 q = my.memory q from if_neg c]
      exact hm q hq
end STL

/-! RUN: a store, each machine -/
section STW
variable {fu i h : Nat} {C : KCo} {W5 : KW5} {st : Nat → Int64} {mb mb' : KMb} {ag : KAg} {o : Int}
set_option maxRecDepth 20000 in
theorem cm_st {ma : KMa} (hi : i < 2000) (ho : o = 54 ∨ o = 55 ∨ o = 58) (hpos : 1 < h) (hh : h ≤ 12096) (hl : (((st (h - 2) &&& 4294967295) + C.values i) + (iI (wdt o : Int)).toInt64).toInt ≤ (((iI ag.pages).toInt64) * 65536).toInt → L25_Ma_store fu ((st (h - 2) &&& 4294967295) + C.values i) (st (h - 1)) (wdt o : Int) fu mb 0 = .ret (mb', (wdt o : Int))) : f_Ma_performMemory fu C W5 mb ag ma (KAs.mk st h) o i = if (((st (h - 2) &&& 4294967295) + C.values i) + (iI (wdt o : Int)).toInt64).toInt ≤ (((iI ag.pages).toInt64) * 65536).toInt then .ret (mb', KAg.mk true ag.pages ag.globals, ma, KAs.mk st ((h - 2 : Nat) : Int)) else .ret (mb, ag, KMa.mk ma.steps 6 ma.next, KAs.mk st ((h - 2 : Nat) : Int)) := by
  have e : f_Op_width o = .ret (wdt o : Int) ∧ f_Op_isLoad o = .ret false := by rcases ho with q | q | q <;> subst q <;> exact ⟨rfl, rfl⟩
  unfold f_Ma_performMemory
  simp only [jp]
  rw [if_neg (show ¬ o = 63 by omega), if_neg (show ¬ o = 64 by omega), e.2, obind_ret, if_neg Bool.false_ne_true, cm_pop (by omega) hh, obind_ret]
  dsimp only
  rw [cm_pop (by omega) (by omega), obind_ret]
  dsimp only
  rw [if_pos (show (0 : Int) ≤ (i : Int) ∧ (i : Int) < 2000 by omega), Int.toNat_natCast, show h - 1 - 1 = h - 2 by omega]
  unfold f_Ma_store f_Ma_isInside
  rw [e.1, obind_ret]
  by_cases c : (((st (h - 2) &&& 4294967295) + C.values i) + (iI (wdt o : Int)).toInt64).toInt ≤ (((iI ag.pages).toInt64) * 65536).toInt
  · rw [if_pos c, if_pos c, obind_ret]
    dsimp only
    rw [if_pos rfl, hl c, obind_ret, obind_ret]
  · rw [if_neg c, if_neg c, obind_ret]
    dsimp only
    rw [if_neg Bool.false_ne_true, obind_ret]
end STW

section STR
variable {fu h : Nat} {f : Nat → Int32} {n r : Int} {M5 : KM5} {vs : Nat → Int64} {my my' : KMy} {rg : KRg} {o : Int}
set_option maxRecDepth 20000 in
theorem rm_st {p q1 q : Int} {e : Int} {v : Int64} (hfu : 10 < fu) (hI : Idx f p q1 e) (hC : Cnt f q1 q v) (hq : q ≤ n) (hn : n ≤ 2000) (ho : o = 54 ∨ o = 55 ∨ o = 58) (hpos : 1 < h) (hh : h ≤ 12096) (hl : (((vs (h - 2) &&& 4294967295) + v) + (iI (wdt o : Int)).toInt64).toInt ≤ (65536 * ((iI rg.pages).toInt64)).toInt → L241_Mo_memoryStep fu (r, KMc.mk q n, v) (wdt o : Int) (KRs.mk vs ((h - 1 : Nat) : Int), vs (h - 1)) (KRs.mk vs ((h - 2 : Nat) : Int), vs (h - 2)) fu my 0 = .ret (my', (wdt o : Int))) : f_Mo_memoryStep fu r (KMc.mk p n) my rg (KRs.mk vs h) (KMt.mk f n) M5 o = if (((vs (h - 2) &&& 4294967295) + v) + (iI (wdt o : Int)).toInt64).toInt ≤ (65536 * ((iI rg.pages).toInt64)).toInt then .ret (r, KMc.mk q n, my', rg, KRs.mk vs ((h - 2 : Nat) : Int)) else .thr (6, KMc.mk q n, my, rg, KRs.mk vs ((h - 2 : Nat) : Int)) := by
  have hq1 := hC.2.1
  have v1 : f_Mo_ends r false 6 = .ret r := rfl
  have v2 : f_Mo_ends r true 6 = .thr 6 := rfl
  unfold f_Mo_memoryStep
  simp only [jp]
  rcases ho with s | s | s
  all_goals
    subst s
    simp only [Int.reduceEq, Int.reduceLT, reduceIte]
    rw [hI.2.2 fu r n n (by omega) (by omega) hn, obind2_ret]
    dsimp only
    rw [hC.2.2 fu r n n (by omega) hq hn, obind2_ret]
    dsimp only
    rw [rm_pop (by omega) hh, obind_ret]
    dsimp only
    rw [rm_pop (by omega) (by omega), obind_ret, show h - 1 - 1 = h - 2 by omega]
    dsimp only
    rw [v1, v2, obind2_ret, obind2_thr]
  · rw [show ((wdt 54 : Nat) : Int) = 4 from rfl] at hl ⊢
    by_cases c : (((vs (h - 2) &&& 4294967295) + v) + (iI (4 : Int)).toInt64).toInt ≤ (65536 * ((iI rg.pages).toInt64)).toInt
    · rw [if_pos c, if_pos c, hl c, obind2_ret]
    · rw [if_neg c, if_neg c]
  · rw [show ((wdt 55 : Nat) : Int) = 8 from rfl] at hl ⊢
    by_cases c : (((vs (h - 2) &&& 4294967295) + v) + (iI (8 : Int)).toInt64).toInt ≤ (65536 * ((iI rg.pages).toInt64)).toInt
    · rw [if_pos c, if_pos c, hl c, obind2_ret]
    · rw [if_neg c, if_neg c]
  · rw [show ((wdt 58 : Nat) : Int) = 1 from rfl] at hl ⊢
    by_cases c : (((vs (h - 2) &&& 4294967295) + v) + (iI (1 : Int)).toInt64).toInt ≤ (65536 * ((iI rg.pages).toInt64)).toInt
    · rw [if_pos c, if_pos c, hl c, obind2_ret]
    · rw [if_neg c, if_neg c]
end STR
