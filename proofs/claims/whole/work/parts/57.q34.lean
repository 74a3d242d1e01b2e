/-! VALID: the reference, instruction by instruction -/
/-- what is left of the tape behind the instruction, and the types -/
abbrev mkV (r q L : Int) (vo : KVo) : KVt → KRf × KMc × KVt × KVo := fun z => (r, KMc.mk q L, z, vo)
abbrev mkP (r q L : Int) : KVt → KRf × KMc × KVt := fun z => (r, KMc.mk q L, z)
set_option maxRecDepth 20000 in
theorem v64 {w : Int64} (h0 : 0 ≤ w.toInt) (h1 : w.toInt ≤ 2147483647) : ((iI w.toInt).toInt64) = w := by
  apply Int64.toInt_inj.mp
  rw [Int32.toInt_toInt64, iI_t (by omega)]
set_option maxRecDepth 20000 in
theorem memA_no {M5 : KM5} {o e : Int} {x : Fr} (h : ¬ (0 < M5.memories ∧ e ≤ mMost o)) : memA (hasM M5) o e x = none := by
  unfold memA
  rw [if_neg (fun q => h ⟨of_decide_eq_true q.1, q.2⟩)]
set_option maxRecDepth 20000 in
theorem memA_ld {M5 : KM5} {o e : Int} {x : Fr} (h : 0 < M5.memories) (h2 : e ≤ mMost o) (ho : o < 54) : memA (hasM M5) o e x = (popA 127 x).map (fun y => pushA (mTy o) y.2) := by
  unfold memA
  rw [if_pos ⟨decide_eq_true h, h2⟩, if_pos ho]
set_option maxRecDepth 20000 in
theorem memA_st {M5 : KM5} {o e : Int} {x : Fr} (h : 0 < M5.memories) (h2 : e ≤ mMost o) (ho : ¬ o < 54) : memA (hasM M5) o e x = (popA (mTy o) x).bind (fun y => (popA 127 y.2).map Prod.snd) := by
  unfold memA
  rw [if_pos ⟨decide_eq_true h, h2⟩, if_neg ho]
section ROP
variable {fu g : Nat} {f : Nat → Int32} {r n L p1 q e lc : Int} {lab : Nat → Int} {R : SS} {N : Nat} {vo : KVo} {z : KVt} {x : Fr} {W1 : KW1} {W3 : KW3} {Wj : KWj} {M1 : KM1} {Mp : KMp} {M3 : KM3} {Mj : KMj} {Ml : KMl} {M5 : KM5} {M6 : KM6} {v : Int64} {o : Int}
set_option maxRecDepth 20000 in
theorem r_mem40 (hfu : 10 < fu) (hd : DecI f 40 v e lab lc p1 q) (h0 : 0 ≤ p1) (hq : p1 ≤ q) (hqL : q ≤ L) (hL : L ≤ 2000) (hV : VOk vo (x :: R)) (hT : ST z (x :: R)) (hn : tot (x :: R) ≤ N) (hN : N < 2000) : Rg R (N + 1) (fun t : KRf × KMc × KVt => t.1 = 2) (mkP r q L) (f_Mo_validPlain fu r (KMc.mk p1 L) z vo (KMt.mk f n) M5 40) (memA (hasM M5) 40 e x) := by
  obtain ⟨q1, i1, i2, i3, i4, i5⟩ := hd.2.2.2.1 (by decide)
  have hq1 := i1.2.1
  have hq2 := i4.2.1
  unfold f_Mo_validPlain
  simp only [jp, Int.reduceLT, Int.reduceLE, Int.reduceEq, reduceIte]
  rw [i1.2.2 fu r n L (by omega) (by omega) hL, obind2_ret]
  dsimp only
  rw [i4.2.2 fu r n L (by omega) hqL hL, obind2_ret]
  dsimp only
  have em : mMost 40 = 2 := rfl
  by_cases cm : M5.memories ≤ 0
  · rw [if_pos cm, mo_valE, obind2_thr, memA_no (by omega)]; exact Rg.no rfl
  rw [if_neg cm]
  by_cases ca : 2 < e
  · rw [if_pos ca, mo_valE, obind2_thr, memA_no (by omega)]; exact Rg.no rfl
  rw [if_neg ca, mo_val, obind2_ret, memA_ld (by omega) (by omega) (by decide)]
  exact Rvp.map (r_pop (by decide) hV hT hn (by omega)) (fun y z e1 e2 e3 e4 => Rg.push (fun _ => rfl) (by decide) e3 e4 hN) (fun t ht => ⟨_, rfl, ht⟩)
set_option maxRecDepth 20000 in
theorem r_mem41 (hfu : 10 < fu) (hd : DecI f 41 v e lab lc p1 q) (h0 : 0 ≤ p1) (hq : p1 ≤ q) (hqL : q ≤ L) (hL : L ≤ 2000) (hV : VOk vo (x :: R)) (hT : ST z (x :: R)) (hn : tot (x :: R) ≤ N) (hN : N < 2000) : Rg R (N + 1) (fun t : KRf × KMc × KVt => t.1 = 2) (mkP r q L) (f_Mo_validPlain fu r (KMc.mk p1 L) z vo (KMt.mk f n) M5 41) (memA (hasM M5) 41 e x) := by
  obtain ⟨q1, i1, i2, i3, i4, i5⟩ := hd.2.2.2.1 (by decide)
  have hq1 := i1.2.1
  have hq2 := i4.2.1
  unfold f_Mo_validPlain
  simp only [jp, Int.reduceLT, Int.reduceLE, Int.reduceEq, reduceIte]
  rw [i1.2.2 fu r n L (by omega) (by omega) hL, obind2_ret]
  dsimp only
  rw [i4.2.2 fu r n L (by omega) hqL hL, obind2_ret]
  dsimp only
  have em : mMost 41 = 3 := rfl
  by_cases cm : M5.memories ≤ 0
  · rw [if_pos cm, mo_valE, obind2_thr, memA_no (by omega)]; exact Rg.no rfl
  rw [if_neg cm]
  by_cases ca : 3 < e
  · rw [if_pos ca, mo_valE, obind2_thr, memA_no (by omega)]; exact Rg.no rfl
  rw [if_neg ca, mo_val, obind2_ret, memA_ld (by omega) (by omega) (by decide)]
  exact Rvp.map (r_pop (by decide) hV hT hn (by omega)) (fun y z e1 e2 e3 e4 => Rg.push (fun _ => rfl) (by decide) e3 e4 hN) (fun t ht => ⟨_, rfl, ht⟩)
set_option maxRecDepth 20000 in
theorem r_mem44 (hfu : 10 < fu) (hd : DecI f 44 v e lab lc p1 q) (h0 : 0 ≤ p1) (hq : p1 ≤ q) (hqL : q ≤ L) (hL : L ≤ 2000) (hV : VOk vo (x :: R)) (hT : ST z (x :: R)) (hn : tot (x :: R) ≤ N) (hN : N < 2000) : Rg R (N + 1) (fun t : KRf × KMc × KVt => t.1 = 2) (mkP r q L) (f_Mo_validPlain fu r (KMc.mk p1 L) z vo (KMt.mk f n) M5 44) (memA (hasM M5) 44 e x) := by
  obtain ⟨q1, i1, i2, i3, i4, i5⟩ := hd.2.2.2.1 (by decide)
  have hq1 := i1.2.1
  have hq2 := i4.2.1
  unfold f_Mo_validPlain
  simp only [jp, Int.reduceLT, Int.reduceLE, Int.reduceEq, reduceIte]
  rw [i1.2.2 fu r n L (by omega) (by omega) hL, obind2_ret]
  dsimp only
  rw [i4.2.2 fu r n L (by omega) hqL hL, obind2_ret]
  dsimp only
  have em : mMost 44 = 0 := rfl
  by_cases cm : M5.memories ≤ 0
  · rw [if_pos cm, mo_valE, obind2_thr, memA_no (by omega)]; exact Rg.no rfl
  rw [if_neg cm]
  by_cases ca : 0 < e
  · rw [if_pos ca, mo_valE, obind2_thr, memA_no (by omega)]; exact Rg.no rfl
  rw [if_neg ca, mo_val, obind2_ret, memA_ld (by omega) (by omega) (by decide)]
  exact Rvp.map (r_pop (by decide) hV hT hn (by omega)) (fun y z e1 e2 e3 e4 => Rg.push (fun _ => rfl) (by decide) e3 e4 hN) (fun t ht => ⟨_, rfl, ht⟩)
set_option maxRecDepth 20000 in
theorem r_mem45 (hfu : 10 < fu) (hd : DecI f 45 v e lab lc p1 q) (h0 : 0 ≤ p1) (hq : p1 ≤ q) (hqL : q ≤ L) (hL : L ≤ 2000) (hV : VOk vo (x :: R)) (hT : ST z (x :: R)) (hn : tot (x :: R) ≤ N) (hN : N < 2000) : Rg R (N + 1) (fun t : KRf × KMc × KVt => t.1 = 2) (mkP r q L) (f_Mo_validPlain fu r (KMc.mk p1 L) z vo (KMt.mk f n) M5 45) (memA (hasM M5) 45 e x) := by
  obtain ⟨q1, i1, i2, i3, i4, i5⟩ := hd.2.2.2.1 (by decide)
  have hq1 := i1.2.1
  have hq2 := i4.2.1
  unfold f_Mo_validPlain
  simp only [jp, Int.reduceLT, Int.reduceLE, Int.reduceEq, reduceIte]
  rw [i1.2.2 fu r n L (by omega) (by omega) hL, obind2_ret]
  dsimp only
  rw [i4.2.2 fu r n L (by omega) hqL hL, obind2_ret]
  dsimp only
  have em : mMost 45 = 0 := rfl
  by_cases cm : M5.memories ≤ 0
  · rw [if_pos cm, mo_valE, obind2_thr, memA_no (by omega)]; exact Rg.no rfl
  rw [if_neg cm]
  by_cases ca : 0 < e
  · rw [if_pos ca, mo_valE, obind2_thr, memA_no (by omega)]; exact Rg.no rfl
  rw [if_neg ca, mo_val, obind2_ret, memA_ld (by omega) (by omega) (by decide)]
  exact Rvp.map (r_pop (by decide) hV hT hn (by omega)) (fun y z e1 e2 e3 e4 => Rg.push (fun _ => rfl) (by decide) e3 e4 hN) (fun t ht => ⟨_, rfl, ht⟩)
set_option maxRecDepth 20000 in
theorem r_mem54 (hfu : 10 < fu) (hd : DecI f 54 v e lab lc p1 q) (h0 : 0 ≤ p1) (hq : p1 ≤ q) (hqL : q ≤ L) (hL : L ≤ 2000) (hV : VOk vo (x :: R)) (hT : ST z (x :: R)) (hn : tot (x :: R) ≤ N) (hN : N < 2000) : Rg R (N + 1) (fun t : KRf × KMc × KVt => t.1 = 2) (mkP r q L) (f_Mo_validPlain fu r (KMc.mk p1 L) z vo (KMt.mk f n) M5 54) (memA (hasM M5) 54 e x) := by
  obtain ⟨q1, i1, i2, i3, i4, i5⟩ := hd.2.2.2.1 (by decide)
  have hq1 := i1.2.1
  have hq2 := i4.2.1
  unfold f_Mo_validPlain
  simp only [jp, Int.reduceLT, Int.reduceLE, Int.reduceEq, reduceIte]
  rw [i1.2.2 fu r n L (by omega) (by omega) hL, obind2_ret]
  dsimp only
  rw [i4.2.2 fu r n L (by omega) hqL hL, obind2_ret]
  dsimp only
  have em : mMost 54 = 2 := rfl
  by_cases cm : M5.memories ≤ 0
  · rw [if_pos cm, mo_valE, obind2_thr, memA_no (by omega)]; exact Rg.no rfl
  rw [if_neg cm]
  by_cases ca : 2 < e
  · rw [if_pos ca, mo_valE, obind2_thr, memA_no (by omega)]; exact Rg.no rfl
  rw [if_neg ca, mo_val, obind2_ret, memA_st (by omega) (by omega) (by decide)]
  refine Rvp.bind (r_pop (by decide) hV hT hn (by omega)) (fun y z e1 e2 e3 e4 => ?_) (fun t ht => ⟨_, rfl, ht⟩)
  exact Rvp.map (r_pop (by decide) (hV.vs (popA_snd e1)) e3 e4 (by omega)) (fun w z f1 f2 f3 f4 => Rg.ret f3 (by omega)) (fun t ht => ⟨_, rfl, ht⟩)
set_option maxRecDepth 20000 in
theorem r_mem55 (hfu : 10 < fu) (hd : DecI f 55 v e lab lc p1 q) (h0 : 0 ≤ p1) (hq : p1 ≤ q) (hqL : q ≤ L) (hL : L ≤ 2000) (hV : VOk vo (x :: R)) (hT : ST z (x :: R)) (hn : tot (x :: R) ≤ N) (hN : N < 2000) : Rg R (N + 1) (fun t : KRf × KMc × KVt => t.1 = 2) (mkP r q L) (f_Mo_validPlain fu r (KMc.mk p1 L) z vo (KMt.mk f n) M5 55) (memA (hasM M5) 55 e x) := by
  obtain ⟨q1, i1, i2, i3, i4, i5⟩ := hd.2.2.2.1 (by decide)
  have hq1 := i1.2.1
  have hq2 := i4.2.1
  unfold f_Mo_validPlain
  simp only [jp, Int.reduceLT, Int.reduceLE, Int.reduceEq, reduceIte]
  rw [i1.2.2 fu r n L (by omega) (by omega) hL, obind2_ret]
  dsimp only
  rw [i4.2.2 fu r n L (by omega) hqL hL, obind2_ret]
  dsimp only
  have em : mMost 55 = 3 := rfl
  by_cases cm : M5.memories ≤ 0
  · rw [if_pos cm, mo_valE, obind2_thr, memA_no (by omega)]; exact Rg.no rfl
  rw [if_neg cm]
  by_cases ca : 3 < e
  · rw [if_pos ca, mo_valE, obind2_thr, memA_no (by omega)]; exact Rg.no rfl
  rw [if_neg ca, mo_val, obind2_ret, memA_st (by omega) (by omega) (by decide)]
  refine Rvp.bind (r_pop (by decide) hV hT hn (by omega)) (fun y z e1 e2 e3 e4 => ?_) (fun t ht => ⟨_, rfl, ht⟩)
  exact Rvp.map (r_pop (by decide) (hV.vs (popA_snd e1)) e3 e4 (by omega)) (fun w z f1 f2 f3 f4 => Rg.ret f3 (by omega)) (fun t ht => ⟨_, rfl, ht⟩)
set_option maxRecDepth 20000 in
theorem r_mem58 (hfu : 10 < fu) (hd : DecI f 58 v e lab lc p1 q) (h0 : 0 ≤ p1) (hq : p1 ≤ q) (hqL : q ≤ L) (hL : L ≤ 2000) (hV : VOk vo (x :: R)) (hT : ST z (x :: R)) (hn : tot (x :: R) ≤ N) (hN : N < 2000) : Rg R (N + 1) (fun t : KRf × KMc × KVt => t.1 = 2) (mkP r q L) (f_Mo_validPlain fu r (KMc.mk p1 L) z vo (KMt.mk f n) M5 58) (memA (hasM M5) 58 e x) := by
  obtain ⟨q1, i1, i2, i3, i4, i5⟩ := hd.2.2.2.1 (by decide)
  have hq1 := i1.2.1
  have hq2 := i4.2.1
  unfold f_Mo_validPlain
  simp only [jp, Int.reduceLT, Int.reduceLE, Int.reduceEq, reduceIte]
  rw [i1.2.2 fu r n L (by omega) (by omega) hL, obind2_ret]
  dsimp only
  rw [i4.2.2 fu r n L (by omega) hqL hL, obind2_ret]
  dsimp only
  have em : mMost 58 = 0 := rfl
  by_cases cm : M5.memories ≤ 0
  · rw [if_pos cm, mo_valE, obind2_thr, memA_no (by omega)]; exact Rg.no rfl
  rw [if_neg cm]
  by_cases ca : 0 < e
  · rw [if_pos ca, mo_valE, obind2_thr, memA_no (by omega)]; exact Rg.no rfl
  rw [if_neg ca, mo_val, obind2_ret, memA_st (by omega) (by omega) (by decide)]
  refine Rvp.bind (r_pop (by decide) hV hT hn (by omega)) (fun y z e1 e2 e3 e4 => ?_) (fun t ht => ⟨_, rfl, ht⟩)
  exact Rvp.map (r_pop (by decide) (hV.vs (popA_snd e1)) e3 e4 (by omega)) (fun w z f1 f2 f3 f4 => Rg.ret f3 (by omega)) (fun t ht => ⟨_, rfl, ht⟩)
set_option maxRecDepth 20000 in
theorem r_m63 (hd : DecI f 63 v e lab lc p1 q) (h0 : 0 ≤ p1) (hq : p1 ≤ q) (hqL : q ≤ L) (hL : L ≤ 2000) (hV : VOk vo (x :: R)) (hT : ST z (x :: R)) (hn : tot (x :: R) ≤ N) (hN : N < 2000) : Rg R (N + 1) (fun t : KRf × KMc × KVt => t.1 = 2) (mkP r q L) (f_Mo_validPlain fu r (KMc.mk p1 L) z vo (KMt.mk f n) M5 63) (if hasM M5 = true then some (pushA 127 x) else none) := by
  obtain ⟨k1, k2⟩ := hd.2.2.2.2.1 (Or.inl rfl)
  unfold f_Mo_validPlain
  simp only [jp, Int.reduceLT, Int.reduceLE, Int.reduceEq, reduceIte]
  rw [mo_one h0 (by omega) hL, obind2_ret]
  dsimp only
  by_cases cm : M5.memories ≤ 0
  · rw [if_pos cm, mo_valE, obind2_thr, if_neg (show ¬ hasM M5 = true from fun q => absurd (of_decide_eq_true q) (by omega))]; exact Rg.no rfl
  · rw [if_neg cm, mo_val, obind2_ret, if_pos (show hasM M5 = true from decide_eq_true (by omega)), ← k1]
    exact Rg.push (fun _ => rfl) (by decide) hT hn hN
set_option maxRecDepth 20000 in
theorem r_m64 (hd : DecI f 64 v e lab lc p1 q) (h0 : 0 ≤ p1) (hq : p1 ≤ q) (hqL : q ≤ L) (hL : L ≤ 2000) (hV : VOk vo (x :: R)) (hT : ST z (x :: R)) (hn : tot (x :: R) ≤ N) (hN : N < 2000) : Rg R (N + 1) (fun t : KRf × KMc × KVt => t.1 = 2) (mkP r q L) (f_Mo_validPlain fu r (KMc.mk p1 L) z vo (KMt.mk f n) M5 64) (if hasM M5 = true then (popA 127 x).map (fun y => pushA 127 y.2) else none) := by
  obtain ⟨k1, k2⟩ := hd.2.2.2.2.1 (Or.inr rfl)
  unfold f_Mo_validPlain
  simp only [jp, Int.reduceLT, Int.reduceLE, Int.reduceEq, reduceIte]
  rw [mo_one h0 (by omega) hL, obind2_ret]
  dsimp only
  by_cases cm : M5.memories ≤ 0
  · rw [if_pos cm, mo_valE, obind2_thr, if_neg (show ¬ hasM M5 = true from fun q => absurd (of_decide_eq_true q) (by omega))]; exact Rg.no rfl
  · rw [if_neg cm, mo_val, obind2_ret, if_pos (show hasM M5 = true from decide_eq_true (by omega)), ← k1]
    exact Rvp.map (r_pop (by decide) hV hT hn (by omega)) (fun y z e1 e2 e3 e4 => Rg.push (fun _ => rfl) (by decide) e3 e4 hN) (fun t ht => ⟨_, rfl, ht⟩)
set_option maxRecDepth 20000 in
theorem r_m65 (ho : o = 65) (hfu : 10 < fu) (hd : DecI f o v e lab lc p1 q) (h0 : 0 ≤ p1) (hq : p1 ≤ q) (hqL : q ≤ L) (hL : L ≤ 2000) (hV : VOk vo (x :: R)) (hT : ST z (x :: R)) (hn : tot (x :: R) ≤ N) (hN : N < 2000) : Rg R (N + 1) (fun t : KRf × KMc × KVt => t.1 = 2) (mkP r q L) (f_Mo_validPlain fu r (KMc.mk p1 L) z vo (KMt.mk f n) M5 o) (some (pushA 127 x)) := by
  obtain ⟨k1, k2⟩ := hd.2.2.2.2.2.1 ho
  unfold f_Mo_validPlain
  simp only [jp]
  rw [if_neg (show ¬ o < 40 by omega), if_pos (show 58 < o by omega), if_neg (show ¬ o = 63 by omega), if_neg (show ¬ o = 64 by omega), if_pos ho, if_pos ho, k1.2.2 fu r n L (by omega) hqL hL, obind2_ret, if_pos ho]
  exact Rg.push (fun _ => rfl) (Or.inr (Or.inl rfl)) hT hn hN
set_option maxRecDepth 20000 in
theorem r_m66 (ho : o = 66) (hfu : 10 < fu) (hd : DecI f o v e lab lc p1 q) (h0 : 0 ≤ p1) (hq : p1 ≤ q) (hqL : q ≤ L) (hL : L ≤ 2000) (hV : VOk vo (x :: R)) (hT : ST z (x :: R)) (hn : tot (x :: R) ≤ N) (hN : N < 2000) : Rg R (N + 1) (fun t : KRf × KMc × KVt => t.1 = 2) (mkP r q L) (f_Mo_validPlain fu r (KMc.mk p1 L) z vo (KMt.mk f n) M5 o) (some (pushA 126 x)) := by
  have k1 := hd.2.2.2.2.2.2.1 ho
  unfold f_Mo_validPlain
  simp only [jp]
  rw [if_neg (show ¬ o < 40 by omega), if_pos (show 58 < o by omega), if_neg (show ¬ o = 63 by omega), if_neg (show ¬ o = 64 by omega), if_neg (show ¬ o = 65 by omega), if_pos ho, if_neg (show ¬ o = 65 by omega), k1.2.2 fu r n L (by omega) hqL hL, obind2_ret, if_neg (show ¬ o = 65 by omega)]
  exact Rg.push (fun _ => rfl) (Or.inr (Or.inr rfl)) hT hn hN
set_option maxRecDepth 20000 in
theorem r_mnum (ho : numo o) (hd : DecI f o v e lab lc p1 q) (h0 : 0 ≤ p1) (hq : p1 ≤ q) (hqL : q ≤ L) (hL : L ≤ 2000) (hV : VOk vo (x :: R)) (hT : ST z (x :: R)) (hn : tot (x :: R) ≤ N) (hN : N < 2000) : Rg R (N + 1) (fun t : KRf × KMc × KVt => t.1 = 2) (mkP r q L) (f_Mo_validPlain fu r (KMc.mk p1 L) z vo (KMt.mk f n) M5 o) (numA (nIn o) (nOut o) (nOne o) x) := by
  have k1 : q = p1 := hd.2.2.2.2.2.2.2 (by omega)
  subst k1
  unfold f_Mo_validPlain
  simp only [jp]
  rw [if_neg (show ¬ o < 40 by omega), if_pos (show 58 < o by omega), if_neg (show ¬ o = 63 by omega), if_neg (show ¬ o = 64 by omega), if_neg (show ¬ o = 65 by omega), if_neg (show ¬ o = 66 by omega)]
  exact Rg.re (r_num ho hV hT hn hN) (fun z => rfl) (fun t ht => ⟨_, rfl, ht⟩)
set_option maxRecDepth 20000 in
theorem r_loc (hM : MOk W1 W3 M1 Mp M3) (hg : (g : Int) < M3.functions) (hL : LOk Wj Mj Ml g) (h0 : 0 ≤ v.toInt) (h1 : v.toInt ≤ 2147483647) : f_Mo_localType r M1 Mp M3 Mj Ml g v = match locA M1 Mp M3 Mj Ml g v.toInt with | some t => .ret (r, t) | none => .thr 2 := by
  obtain ⟨p0, p8⟩ := hM.pc hg
  obtain ⟨l1, l2, l3, l4⟩ := hL
  obtain ⟨T1, a1, a2, a3, a4, a5, a6⟩ := hM.ty hg
  have hp9 : M1.parameterCount (tyOf M3 g) = pcn M1 M3 g := rfl
  unfold f_Mo_localType locA
  rw [mo_ty hM hg, obind_ret, if_pos (by omega), if_pos (by omega), Int.toNat_natCast, Int.toNat_natCast]
  simp only [jp_ite]
  simp only [jp, vl_ite']
  rw [if_pos (show R32 (M1.parameterCount (tyOf M3 g) + Mj.localCount g) by omega), Int32.toInt_toInt64, iI_t (show R32 (M1.parameterCount (tyOf M3 g) + Mj.localCount g) by omega), Int32.toInt_toInt64, iI_t (show R32 (M1.parameterCount (tyOf M3 g)) by omega)]
  by_cases c : v.toInt < pcn M1 M3 g + Mj.localCount g
  · rw [if_neg (show ¬ M1.parameterCount (tyOf M3 g) + Mj.localCount g ≤ v.toInt by omega), if_pos c]
    by_cases c2 : v.toInt < pcn M1 M3 g
    · have e5 : v.toInt32.toInt = ((v.toInt.toNat : Nat) : Int) := by
        rw [Int64.toInt_toInt32, Int.bmod_eq_of_le (by omega) (by omega)]; omega
      rw [if_neg (show ¬ M1.parameterCount (tyOf M3 g) ≤ v.toInt by omega), obind_ret, if_pos (by omega), e5, if_pos (by omega), Int.toNat_natCast, Int.toNat_natCast, if_pos c2]
    · have e5 : (v.toInt32 - iI (M1.parameterCount (tyOf M3 g))).toInt = v.toInt - pcn M1 M3 g := by
        have : v.toInt32 = iI v.toInt := by
          apply Int32.toInt_inj.mp
          rw [iI_t (by omega), Int64.toInt_toInt32, Int.bmod_eq_of_le (by omega) (by omega)]
        rw [this, iI_sub, iI_t (by omega)]
      rw [if_pos (show M1.parameterCount (tyOf M3 g) ≤ v.toInt by omega), if_pos (by omega), e5, if_pos (by omega), if_neg c2]
  · rw [if_pos (show M1.parameterCount (tyOf M3 g) + Mj.localCount g ≤ v.toInt by omega), if_neg c]
set_option maxRecDepth 20000 in
theorem r_v32 (hfu : 10 < fu) (hM : MOk W1 W3 M1 Mp M3) (hg : (g : Int) < M3.functions) (hLo : LOk Wj Mj Ml g) (hd : DecI f 32 v e lab lc p1 q) (h0 : 0 ≤ p1) (hq : p1 ≤ q) (hqL : q ≤ L) (hL : L ≤ 2000) (hV : VOk vo (x :: R)) (hT : ST z (x :: R)) (hn : tot (x :: R) ≤ N) (hN : N < 2000) : Rg R (N + 1) (fun t : KRf × KMc × KVt × KVo => t.1 = 2) (mkV r q L vo) (f_Mo_validStep fu r (KMc.mk p1 L) z vo (g : Int) (KMt.mk f n) M1 Mp M3 Mj Ml M5 M6 32) ((locA M1 Mp M3 Mj Ml g v.toInt).map (fun t => pushA t x)) := by
  obtain ⟨i1, i2, i3⟩ := hd.2.1 (by omega)
  unfold f_Mo_validStep
  simp only [jp, Int.reduceLT, Int.reduceLE, Int.reduceEq, reduceIte]
  rw [i1.2.2 fu r n L (by omega) hqL hL, obind2_ret]
  dsimp only
  rw [v64 i2 i3, show KVf.function (g : Int) = (g : Int) from rfl, r_loc hM hg hLo i2 i3]
  cases hl : locA M1 Mp M3 Mj Ml g v.toInt with
  | none => dsimp only; rw [obind2_thr]; exact Rg.no rfl
  | some t =>
    have ht := locA_ty hM hg hLo i2 hl
    dsimp only
    rw [obind2_ret]
    exact Rg.push (fun _ => rfl) (Or.inr ht) hT hn hN
set_option maxRecDepth 20000 in
theorem r_v33 (hfu : 10 < fu) (hM : MOk W1 W3 M1 Mp M3) (hg : (g : Int) < M3.functions) (hLo : LOk Wj Mj Ml g) (hd : DecI f 33 v e lab lc p1 q) (h0 : 0 ≤ p1) (hq : p1 ≤ q) (hqL : q ≤ L) (hL : L ≤ 2000) (hV : VOk vo (x :: R)) (hT : ST z (x :: R)) (hn : tot (x :: R) ≤ N) (hN : N < 2000) : Rg R (N + 1) (fun t : KRf × KMc × KVt × KVo => t.1 = 2) (mkV r q L vo) (f_Mo_validStep fu r (KMc.mk p1 L) z vo (g : Int) (KMt.mk f n) M1 Mp M3 Mj Ml M5 M6 33) ((locA M1 Mp M3 Mj Ml g v.toInt).bind (fun t => (popA t x).map Prod.snd)) := by
  obtain ⟨i1, i2, i3⟩ := hd.2.1 (by omega)
  unfold f_Mo_validStep
  simp only [jp, Int.reduceLT, Int.reduceLE, Int.reduceEq, reduceIte]
  rw [i1.2.2 fu r n L (by omega) hqL hL, obind2_ret]
  dsimp only
  rw [v64 i2 i3, show KVf.function (g : Int) = (g : Int) from rfl, r_loc hM hg hLo i2 i3]
  cases hl : locA M1 Mp M3 Mj Ml g v.toInt with
  | none => dsimp only; rw [obind2_thr]; exact Rg.no rfl
  | some t =>
    have ht := locA_ty hM hg hLo i2 hl
    dsimp only
    rw [obind2_ret]
    exact Rvp.map (r_pop (Or.inr ht) hV hT hn (by omega)) (fun y z e1 e2 e3 e4 => Rg.ret e3 (by omega)) (fun t ht => ⟨_, rfl, ht⟩)
set_option maxRecDepth 20000 in
theorem r_v34 (hfu : 10 < fu) (hM : MOk W1 W3 M1 Mp M3) (hg : (g : Int) < M3.functions) (hLo : LOk Wj Mj Ml g) (hd : DecI f 34 v e lab lc p1 q) (h0 : 0 ≤ p1) (hq : p1 ≤ q) (hqL : q ≤ L) (hL : L ≤ 2000) (hV : VOk vo (x :: R)) (hT : ST z (x :: R)) (hn : tot (x :: R) ≤ N) (hN : N < 2000) : Rg R (N + 1) (fun t : KRf × KMc × KVt × KVo => t.1 = 2) (mkV r q L vo) (f_Mo_validStep fu r (KMc.mk p1 L) z vo (g : Int) (KMt.mk f n) M1 Mp M3 Mj Ml M5 M6 34) ((locA M1 Mp M3 Mj Ml g v.toInt).bind (fun t => (popA t x).map (fun y => pushA t y.2))) := by
  obtain ⟨i1, i2, i3⟩ := hd.2.1 (by omega)
  unfold f_Mo_validStep
  simp only [jp, Int.reduceLT, Int.reduceLE, Int.reduceEq, reduceIte]
  rw [i1.2.2 fu r n L (by omega) hqL hL, obind2_ret]
  dsimp only
  rw [v64 i2 i3, show KVf.function (g : Int) = (g : Int) from rfl, r_loc hM hg hLo i2 i3]
  cases hl : locA M1 Mp M3 Mj Ml g v.toInt with
  | none => dsimp only; rw [obind2_thr]; exact Rg.no rfl
  | some t =>
    have ht := locA_ty hM hg hLo i2 hl
    dsimp only
    rw [obind2_ret]
    exact Rvp.map (r_pop (Or.inr ht) hV hT hn (by omega)) (fun y z e1 e2 e3 e4 => Rg.push (fun _ => rfl) (Or.inr ht) e3 e4 hN) (fun t ht => ⟨_, rfl, ht⟩)
set_option maxRecDepth 20000 in
theorem r_v35 {W6 : KW6} (hfu : 10 < fu) (h6 : R6 W6 M6) (hd : DecI f 35 v e lab lc p1 q) (h0 : 0 ≤ p1) (hq : p1 ≤ q) (hqL : q ≤ L) (hL : L ≤ 2000) (hV : VOk vo (x :: R)) (hT : ST z (x :: R)) (hn : tot (x :: R) ≤ N) (hN : N < 2000) : Rg R (N + 1) (fun t : KRf × KMc × KVt × KVo => t.1 = 2) (mkV r q L vo) (f_Mo_validStep fu r (KMc.mk p1 L) z vo (g : Int) (KMt.mk f n) M1 Mp M3 Mj Ml M5 M6 35) (if v.toInt < M6.globals then some (pushA (M6.globalTypes v.toInt.toNat) x) else none) := by
  obtain ⟨T, t1, t2, t3, t4⟩ := h6
  obtain ⟨i1, i2, i3⟩ := hd.2.1 (by omega)
  unfold f_Mo_validStep
  simp only [jp, Int.reduceLT, Int.reduceLE, Int.reduceEq, reduceIte]
  rw [i1.2.2 fu r n L (by omega) hqL hL, obind2_ret]
  dsimp only
  by_cases c : v.toInt < M6.globals
  · rw [if_neg (by omega), if_pos c, mo_val, obind2_ret, if_pos (by omega)]
    exact Rg.push (fun _ => rfl) (Or.inr (t4 v.toInt.toNat (by omega)).2.2.2.2.1) hT hn hN
  · rw [if_pos (by omega), if_neg c, mo_valE, obind2_thr]; exact Rg.no rfl
set_option maxRecDepth 20000 in
theorem r_v36 {W6 : KW6} (hfu : 10 < fu) (h6 : R6 W6 M6) (hd : DecI f 36 v e lab lc p1 q) (h0 : 0 ≤ p1) (hq : p1 ≤ q) (hqL : q ≤ L) (hL : L ≤ 2000) (hV : VOk vo (x :: R)) (hT : ST z (x :: R)) (hn : tot (x :: R) ≤ N) (hN : N < 2000) : Rg R (N + 1) (fun t : KRf × KMc × KVt × KVo => t.1 = 2) (mkV r q L vo) (f_Mo_validStep fu r (KMc.mk p1 L) z vo (g : Int) (KMt.mk f n) M1 Mp M3 Mj Ml M5 M6 36) (if v.toInt < M6.globals ∧ M6.changes v.toInt.toNat = true then (popA (M6.globalTypes v.toInt.toNat) x).map Prod.snd else none) := by
  obtain ⟨T, t1, t2, t3, t4⟩ := h6
  obtain ⟨i1, i2, i3⟩ := hd.2.1 (by omega)
  unfold f_Mo_validStep
  simp only [jp, Int.reduceLT, Int.reduceLE, Int.reduceEq, reduceIte]
  rw [i1.2.2 fu r n L (by omega) hqL hL, obind2_ret]
  dsimp only
  by_cases c : v.toInt < M6.globals
  · rw [if_neg (by omega), if_pos (show 0 ≤ v.toInt ∧ v.toInt < 20 by omega)]
    by_cases cc : M6.changes v.toInt.toNat = true
    · rw [if_pos cc, if_pos (show v.toInt < M6.globals ∧ M6.changes v.toInt.toNat = true from ⟨c, cc⟩), mo_val, obind2_ret, if_pos (show 0 ≤ v.toInt ∧ v.toInt < 20 by omega)]
      exact Rvp.map (r_pop (Or.inr (t4 v.toInt.toNat (by omega)).2.2.2.2.1) hV hT hn (by omega)) (fun y z e1 e2 e3 e4 => Rg.ret e3 (by omega)) (fun t ht => ⟨_, rfl, ht⟩)
    · rw [if_neg cc, if_neg (fun q => cc q.2), mo_valE, obind2_thr]; exact Rg.no rfl
  · rw [if_pos (by omega), if_neg (fun q => c q.1), mo_valE, obind2_thr]; exact Rg.no rfl
set_option maxRecDepth 20000 in
theorem r_v26 (hd : DecI f 26 v e lab lc p1 q) (h0 : 0 ≤ p1) (hq : p1 ≤ q) (hqL : q ≤ L) (hL : L ≤ 2000) (hV : VOk vo (x :: R)) (hT : ST z (x :: R)) (hn : tot (x :: R) ≤ N) (hN : N < 2000) : Rg R (N + 1) (fun t : KRf × KMc × KVt × KVo => t.1 = 2) (mkV r q L vo) (f_Mo_validStep fu r (KMc.mk p1 L) z vo (g : Int) (KMt.mk f n) M1 Mp M3 Mj Ml M5 M6 26) ((popA 0 x).map Prod.snd) := by
  have k1 : q = p1 := hd.2.2.2.2.2.2.2 (by omega)
  subst k1
  unfold f_Mo_validStep
  simp only [jp, Int.reduceLT, Int.reduceLE, Int.reduceEq, reduceIte]
  exact Rvp.map (r_pop (by decide) hV hT hn (by omega)) (fun y z e1 e2 e3 e4 => Rg.ret e3 (by omega)) (fun t ht => ⟨_, rfl, ht⟩)
set_option maxRecDepth 20000 in
theorem r_v27 (hd : DecI f 27 v e lab lc p1 q) (h0 : 0 ≤ p1) (hq : p1 ≤ q) (hqL : q ≤ L) (hL : L ≤ 2000) (hV : VOk vo (x :: R)) (hT : ST z (x :: R)) (hn : tot (x :: R) ≤ N) (hN : N < 2000) : Rg R (N + 1) (fun t : KRf × KMc × KVt × KVo => t.1 = 2) (mkV r q L vo) (f_Mo_validStep fu r (KMc.mk p1 L) z vo (g : Int) (KMt.mk f n) M1 Mp M3 Mj Ml M5 M6 27) (selA x) := by
  have k1 : q = p1 := hd.2.2.2.2.2.2.2 (by omega)
  subst k1
  unfold f_Mo_validStep
  simp only [jp, Int.reduceLT, Int.reduceLE, Int.reduceEq, reduceIte]
  unfold selA
  refine Rvp.bind (r_pop (by decide) hV hT hn (by omega)) (fun a z a1 a2 a3 a4 => ?_) (fun t ht => ⟨_, rfl, ht⟩)
  have hVa := hV.vs (popA_snd a1)
  refine Rvp.bind (r_pop (by decide) hVa a3 a4 (by omega)) (fun b z b1 b2 b3 b4 => ?_) (fun t ht => ⟨_, rfl, ht⟩)
  have hVb := hVa.vs (popA_snd b1)
  refine Rvp.bind (r_pop (by decide) hVb b3 b4 (by omega)) (fun c z c1 c2 c3 c4 => ?_) (fun t ht => ⟨_, rfl, ht⟩)
  dsimp only
  have good : Rg R (N + 1) (fun t : KRf × KMc × KVt × KVo => t.1 = 2) (mkV r q L vo) (obind2 (f_Mo_valid r true) (fun x_145 => if b.1 = -1 then (if 0 ≤ z.top ∧ z.top < 2000 then if R32 (z.top + 1) then .ret (x_145, KMc.mk q L, KVt.mk (updZ z.stack z.top.toNat c.1) (z.top + 1), vo) else .bad else .bad) else (if 0 ≤ z.top ∧ z.top < 2000 then if R32 (z.top + 1) then .ret (x_145, KMc.mk q L, KVt.mk (updZ z.stack z.top.toNat b.1) (z.top + 1), vo) else .bad else .bad)) (fun x_145 => .thr (x_145, KMc.mk q L, z, vo))) (some ((if b.1 = -1 then c.1 else b.1) :: c.2.1, c.2.2)) := by
    rw [mo_val, obind2_ret]
    by_cases cb : b.1 = -1
    · obtain ⟨h1, h2, h3, h4, h5⟩ := r_pushX (t := c.1) c2 c3 c4 hN
      rw [if_pos cb, if_pos cb, if_pos ⟨h1, h2⟩, if_pos h3]
      exact Rg.ret h4 h5
    · obtain ⟨h1, h2, h3, h4, h5⟩ := r_pushX (t := b.1) b2 c3 c4 hN
      rw [if_neg cb, if_neg cb, if_pos ⟨h1, h2⟩, if_pos h3]
      exact Rg.ret h4 h5
  by_cases d1 : b.1 = c.1
  · rw [if_pos d1, if_pos (Or.inl d1)]; exact good
  · rw [if_neg d1]
    by_cases d2 : b.1 = -1
    · rw [if_pos d2, if_pos (Or.inr (Or.inl d2))]; simpa only [if_pos d2] using good
    · rw [if_neg d2]
      by_cases d3 : c.1 = -1
      · rw [if_pos d3, if_pos (Or.inr (Or.inr d3))]; simpa only [if_neg d2] using good
      · rw [if_neg d3, if_neg (by rintro (q | q | q); exact d1 q; exact d2 q; exact d3 q), mo_valE, obind2_thr]; exact Rg.no rfl
/-! calls -/
set_option maxRecDepth 20000 in
theorem rl_end {n1 : Nat} {x100 : KRf × KMc × Int} {p : Int} (h : p < 0) : L413_Mo_validStep fu vo Mp M3 x100 (n1 + 1) r z p = .ret (r, z, p) := by
  rw [L413_Mo_validStep.eq_2, if_pos h]
set_option maxRecDepth 20000 in
theorem rl_step {n1 u p : Nat} {x100 : KRf × KMc × Int} (hM : MOk W1 W3 M1 Mp M3) (hf : (u : Int) < M3.functions) (hv : x100.2.2 = u) (hp : (p : Int) < pcn M1 M3 u) : L413_Mo_validStep fu vo Mp M3 x100 (n1 + 1) r z p = obind2 (f_Mo_pop r z vo (ptp Mp M3 u p)) (fun x => L413_Mo_validStep fu vo Mp M3 x100 n1 x.1 x.2.1 ((p : Int) - 1)) (fun x => .thr (x.1, x100.2.1, x.2, vo)) := by
  have h8 := (hM.pt hf hp).1
  obtain ⟨T1, a1, a2, a3, a4, a5, a6⟩ := hM.ty hf
  rw [L413_Mo_validStep.eq_2, if_neg (by omega), hv, mo_ty hM hf, obind_ret, if_pos (by omega), if_pos (by omega), Int.toNat_natCast, Int.toNat_natCast]
  simp only [if_pos (show R32 ((p : Int) + -1) by omega)]
  rfl
set_option maxRecDepth 20000 in
theorem rl_loop {u : Nat} {x100 : KRf × KMc × Int} (hM : MOk W1 W3 M1 Mp M3) (hf : (u : Int) < M3.functions) (hv : x100.2.2 = u) (hN : N < 2000) : ∀ (k n1 : Nat) (z : KVt) (x : Fr), (k : Int) ≤ pcn M1 M3 u → k < n1 → VOk vo (x :: R) → ST z (x :: R) → tot (x :: R) ≤ N → (∃ y z' p', popsA (ptp Mp M3 u) k x = some y ∧ L413_Mo_validStep fu vo Mp M3 x100 n1 r z ((k : Int) - 1) = .ret (r, z', p') ∧ ST z' (y :: R) ∧ tot (y :: R) ≤ N) ∨ (∃ t, popsA (ptp Mp M3 u) k x = none ∧ L413_Mo_validStep fu vo Mp M3 x100 n1 r z ((k : Int) - 1) = .thr t ∧ t.1 = 2) := by
  intro k
  induction k with
  | zero =>
    intro n1 z x hq hn hV hT ht
    obtain ⟨n1, rfl⟩ : ∃ q, n1 = q + 1 := ⟨n1 - 1, by omega⟩
    rw [rl_end (by omega)]
    exact Or.inl ⟨x, z, _, rfl, rfl, hT, ht⟩
  | succ k ih =>
    intro n1 z x hq hn hV hT ht
    obtain ⟨n1, rfl⟩ : ∃ q, n1 = q + 1 := ⟨n1 - 1, by omega⟩
    rw [show ((k + 1 : Nat) : Int) - 1 = (k : Int) by omega, rl_step hM hf hv (by omega)]
    unfold popsA
    rcases r_pop (r := r) (Or.inr (hM.pt hf (p := k) (by omega)).2) hV hT ht (by omega) with ⟨y, z', e1, e2, e3, e4, e5⟩ | ⟨t, e1, e2, e3⟩
    · rw [e1, e2, obind2_ret]
      exact ih n1 z' y.2 (by omega) (by omega) (hV.vs (popA_snd e1)) e4 e5
    · rw [e1, e2, obind2_thr]
      exact Or.inr ⟨_, rfl, rfl, e3⟩
set_option maxRecDepth 20000 in
theorem r_v16 (hfu : 10 < fu) (hM : MOk W1 W3 M1 Mp M3) (hd : DecI f 16 v e lab lc p1 q) (h0 : 0 ≤ p1) (hq : p1 ≤ q) (hqL : q ≤ L) (hL : L ≤ 2000) (hV : VOk vo (x :: R)) (hT : ST z (x :: R)) (hn : tot (x :: R) ≤ N) (hN : N < 2000) : Rg R (N + 1) (fun t : KRf × KMc × KVt × KVo => t.1 = 2) (mkV r q L vo) (f_Mo_validStep fu r (KMc.mk p1 L) z vo (g : Int) (KMt.mk f n) M1 Mp M3 Mj Ml M5 M6 16) (if v.toInt < M3.functions then (popsA (ptp Mp M3 v.toInt.toNat) (pcn M1 M3 v.toInt.toNat).toNat x).map (fun y => pushA (res M1 M3 v.toInt.toNat) y) else none) := by
  obtain ⟨i1, i2, i3⟩ := hd.2.1 (by omega)
  unfold f_Mo_validStep
  simp only [jp, Int.reduceLT, Int.reduceLE, Int.reduceEq, reduceIte]
  rw [i1.2.2 fu r n L (by omega) hqL hL, obind2_ret]
  dsimp only
  by_cases c : v.toInt < M3.functions
  · obtain ⟨u, hu⟩ := Int.eq_ofNat_of_zero_le i2
    rw [hu] at c ⊢
    obtain ⟨T1, a1, a2, a3, a4, a5, a6⟩ := hM.ty c
    obtain ⟨p0, p8⟩ := hM.pc c
    obtain ⟨P, hP⟩ := Int.eq_ofNat_of_zero_le p0
    rw [if_neg (by omega), if_pos c, mo_val, obind2_ret, mo_ty hM c, obind_ret, if_pos (by omega), Int.toNat_natCast, Int.toNat_natCast, if_pos (show R32 (pcn M1 M3 u - 1) by omega), show M1.parameterCount (tyOf M3 u) = (P : Int) from hP, hP, Int.toNat_natCast]
    rcases rl_loop (r := r) (fu := fu) (R := R) (x100 := (r, KMc.mk q L, (u : Int))) hM c rfl hN P fu z x (by omega) (by omega) hV hT hn with ⟨y, z', p', f1, f2, f3, f4⟩ | ⟨t, f1, f2, f3⟩
    · rw [f1, f2, obind2_ret, obind_ret, if_pos (show (0 : Int) ≤ tyOf M3 u ∧ (tyOf M3 u : Int) < 20 by omega)]
      exact Rg.push (fun _ => rfl) (hM.rs c) f3 f4 hN
    · rw [f1, f2, obind2_thr]; exact Rg.no f3
  · rw [if_pos (by omega), if_neg c, mo_valE, obind2_thr]; exact Rg.no rfl
/-- every instruction that looks at the innermost block alone -/
abbrev opk (o : Int) : Prop := o = 16 ∨ o = 26 ∨ o = 27 ∨ (32 ≤ o ∧ o ≤ 36) ∨ ldst o ∨ (63 ≤ o ∧ o ≤ 66) ∨ numo o
set_option maxRecDepth 20000 in
theorem r_op {W6 : KW6} (hfu : 10 < fu) (hM : MOk W1 W3 M1 Mp M3) (hg : (g : Int) < M3.functions) (hLo : LOk Wj Mj Ml g) (h6 : R6 W6 M6) (ho : opk o) (hd : DecI f o v e lab lc p1 q) (h0 : 0 ≤ p1) (hq : p1 ≤ q) (hqL : q ≤ L) (hL : L ≤ 2000) (hV : VOk vo (x :: R)) (hT : ST z (x :: R)) (hn : tot (x :: R) ≤ N) (hN : N < 2000) : Rg R (N + 1) (fun t : KRf × KMc × KVt × KVo => t.1 = 2) (mkV r q L vo) (f_Mo_validStep fu r (KMc.mk p1 L) z vo (g : Int) (KMt.mk f n) M1 Mp M3 Mj Ml M5 M6 o) (opF M1 Mp M3 Mj Ml M5 M6 g o v e x) := by
  unfold opF
  by_cases c : o = 16
  · subst c; rw [if_pos rfl]; exact r_v16 hfu hM hd h0 hq hqL hL hV hT hn hN
  rw [if_neg c]
  by_cases c : o = 26
  · subst c; rw [if_pos rfl]; exact r_v26 hd h0 hq hqL hL hV hT hn hN
  rw [if_neg c]
  by_cases c : o = 27
  · subst c; rw [if_pos rfl]; exact r_v27 hd h0 hq hqL hL hV hT hn hN
  rw [if_neg c]
  by_cases c : o = 32
  · subst c; rw [if_pos rfl]; exact r_v32 hfu hM hg hLo hd h0 hq hqL hL hV hT hn hN
  rw [if_neg c]
  by_cases c : o = 33
  · subst c; rw [if_pos rfl]; exact r_v33 hfu hM hg hLo hd h0 hq hqL hL hV hT hn hN
  rw [if_neg c]
  by_cases c : o = 34
  · subst c; rw [if_pos rfl]; exact r_v34 hfu hM hg hLo hd h0 hq hqL hL hV hT hn hN
  rw [if_neg c]
  by_cases c : o = 35
  · subst c; rw [if_pos rfl]; exact r_v35 hfu h6 hd h0 hq hqL hL hV hT hn hN
  rw [if_neg c]
  by_cases c : o = 36
  · subst c; rw [if_pos rfl]; exact r_v36 hfu h6 hd h0 hq hqL hL hV hT hn hN
  rw [if_neg c]
  -- what goes to validPlain
  have pl : ∀ X, Rg R (N + 1) (fun t : KRf × KMc × KVt => t.1 = 2) (mkP r q L) (f_Mo_validPlain fu r (KMc.mk p1 L) z vo (KMt.mk f n) M5 o) X → Rg R (N + 1) (fun t : KRf × KMc × KVt × KVo => t.1 = 2) (mkV r q L vo) (f_Mo_validStep fu r (KMc.mk p1 L) z vo (g : Int) (KMt.mk f n) M1 Mp M3 Mj Ml M5 M6 o) X := by
    intro X h
    unfold f_Mo_validStep
    simp only [jp]
    rw [if_neg (show ¬ o = 0 by omega), if_neg (show ¬ o = 1 by omega), if_neg (show ¬ o = 2 by omega), if_neg (show ¬ o = 3 by omega), if_neg (show ¬ o = 4 by omega), if_neg (show ¬ o = 5 by omega), if_neg (show ¬ o = 12 by omega), if_neg (show ¬ o = 13 by omega), if_neg (show ¬ o = 14 by omega), if_neg (show ¬ o = 15 by omega), if_neg (show ¬ o = 16 by omega), if_neg (show ¬ o = 26 by omega), if_neg (show ¬ o = 27 by omega), if_neg (show ¬ o = 32 by omega), if_neg (show ¬ o = 33 by omega), if_neg (show ¬ o = 34 by omega), if_neg (show ¬ o = 35 by omega), if_neg (show ¬ o = 36 by omega)]
    exact Rg.re h (fun z => rfl) (fun t ht => ⟨_, rfl, ht⟩)
  by_cases c : o ≤ 58
  · rw [if_pos c]
    have : o = 40 ∨ o = 41 ∨ o = 44 ∨ o = 45 ∨ o = 54 ∨ o = 55 ∨ o = 58 := by omega
    apply pl
    rcases this with q9 | q9 | q9 | q9 | q9 | q9 | q9 <;> subst q9
    · exact r_mem40 hfu hd h0 hq hqL hL hV hT hn hN
    · exact r_mem41 hfu hd h0 hq hqL hL hV hT hn hN
    · exact r_mem44 hfu hd h0 hq hqL hL hV hT hn hN
    · exact r_mem45 hfu hd h0 hq hqL hL hV hT hn hN
    · exact r_mem54 hfu hd h0 hq hqL hL hV hT hn hN
    · exact r_mem55 hfu hd h0 hq hqL hL hV hT hn hN
    · exact r_mem58 hfu hd h0 hq hqL hL hV hT hn hN
  rw [if_neg c]
  apply pl
  by_cases c : o = 63
  · subst c; rw [if_pos rfl]; exact r_m63 hd h0 hq hqL hL hV hT hn hN
  rw [if_neg c]
  by_cases c : o = 64
  · subst c; rw [if_pos rfl]; exact r_m64 hd h0 hq hqL hL hV hT hn hN
  rw [if_neg c]
  by_cases c : o = 65
  · rw [if_pos c]; exact r_m65 c hfu hd h0 hq hqL hL hV hT hn hN
  rw [if_neg c]
  by_cases c : o = 66
  · rw [if_pos c]; exact r_m66 c hfu hd h0 hq hqL hL hV hT hn hN
  rw [if_neg c]
  exact r_mnum (by omega) hd h0 hq hqL hL hV hT hn hN
end ROP
