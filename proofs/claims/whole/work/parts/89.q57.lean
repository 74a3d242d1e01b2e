/-! RUN: tables of branches -/
set_option maxRecDepth 20000 in
theorem and32 (x : Int64) : uL (x &&& 4294967295) = uL x % 2 ^ 32 := by
  unfold uL
  rw [Int64.toBitVec_and, BitVec.toNat_and, show (4294967295 : Int64).toBitVec.toNat = 2 ^ 32 - 1 from by decide]
  exact Nat.and_two_pow_sub_one_eq_mod _ 32
set_option maxRecDepth 20000 in
theorem and32_t (x : Int64) : (x &&& 4294967295).toInt = (uL x % 2 ^ 32 : Nat) := by
  have h := and32 x
  have h2 : uL x % 2 ^ 32 < 2 ^ 32 := Nat.mod_lt _ (by decide)
  rw [uL_toInt (by omega), h]
set_option maxRecDepth 20000 in
theorem Lbl_le {f : Nat → Int32} {lab : Nat → Int} : ∀ (m l : Nat) (p q : Int), Lbl f lab m l p q → p ≤ q
  | 0, _, _, _, h => Int.le_of_eq h
  | m + 1, l, p, q, h => by
    obtain ⟨p1, h1, h2, h3, h4⟩ := h
    have := Lbl_le m (l + 1) p1 q h4
    have := h1.2.1
    omega
set_option maxRecDepth 20000 in
theorem Lbl_ge {f : Nat → Int32} {lab : Nat → Int} : ∀ (m l : Nat) (p q : Int), Lbl f lab m l p q → ∀ j, j < m → 0 ≤ lab (l + j) ∧ lab (l + j) ≤ 2147483647
  | 0, _, _, _, _ => fun j hj => absurd hj (Nat.not_lt_zero j)
  | m + 1, l, p, q, h => fun j hj => by
    obtain ⟨p1, h1, h2, h3, h4⟩ := h
    by_cases c : j = 0
    · subst c; exact ⟨h2, h3⟩
    · have := Lbl_ge m (l + 1) p1 q h4 (j - 1) (by omega)
      rwa [show l + 1 + (j - 1) = l + j by omega] at this
section TAB
variable {fu : Nat} {f : Nat → Int32} {n r L q : Int} {lab : Nat → Int} {rr : KRr} {rl : KRl}
set_option maxRecDepth 20000 in
theorem tb_loop (hfu : 10 < fu) (hqL : q ≤ L) (hL : L ≤ 2000) {N W l : Nat} (hN : N ≤ 50) {x1 : KRf × KMc × Int} (hx : x1.2.2 = N) {x3 : KRs × Int64} (hw : (x3.2 &&& 4294967295).toInt = W) : ∀ (j i n1 : Nat) (p ch : Int), i + j = N + 1 → j < n1 → Lbl f lab j (l + i) p q → (min W N < i → ch = lab (l + min W N)) → L23_Mo_table fu rr rl (KMt.mk f n) x1 x3 n1 r (KMc.mk p L) ch i = .ret (r, KMc.mk q L, lab (l + min W N), ((N + 1 : Nat) : Int)) := by
  intro j
  induction j with
  | zero =>
    intro i n1 p ch hi hn hl hc
    obtain ⟨n1, rfl⟩ : ∃ q, n1 = q + 1 := ⟨n1 - 1, by omega⟩
    have hi2 : i = N + 1 := by omega
    subst hi2
    have hpq : p = q := hl
    rw [L23_Mo_table.eq_2, hx, if_pos (by omega), hpq, hc (by omega)]
  | succ j ih =>
    intro i n1 p ch hi hn hl hc
    obtain ⟨n1, rfl⟩ : ∃ q, n1 = q + 1 := ⟨n1 - 1, by omega⟩
    obtain ⟨p1, ⟨g1, g2, g3⟩, g4, g5, g6⟩ := hl
    have hp1 := Lbl_le _ _ _ _ g6
    rw [L23_Mo_table.eq_2, hx, if_neg (by omega), g3 fu r n L (by omega) (by omega) hL, obind2_ret]
    simp only [jp, if_pos (show R32 ((i : Int) + 1) by omega)]
    have hiW : ((iI (i : Int)).toInt64 = x3.2 &&& 4294967295) ↔ i = W := by
      constructor
      · intro h
        have h9 := congrArg Int64.toInt h
        rw [Int32.toInt_toInt64, iI_t (by omega), hw] at h9
        omega
      · intro h
        apply Int64.toInt_inj.mp
        rw [Int32.toInt_toInt64, iI_t (by omega), hw, h]
    have hNt : ((iI (N : Int)).toInt64).toInt = N := by rw [Int32.toInt_toInt64, iI_t (by omega)]
    have e9 : ((i : Int) + 1) = ((i + 1 : Nat) : Int) := by omega
    have g6' : Lbl f lab j (l + (i + 1)) p1 q := g6
    rw [e9]
    by_cases c : i = W
    · rw [if_pos (hiW.mpr c)]
      exact ih (i + 1) n1 p1 _ (by omega) (by omega) g6' (fun _ => by rw [show min W N = i by omega])
    · rw [if_neg (fun q => c (hiW.mp q))]
      by_cases c2 : (i : Int) = (N : Int)
      · rw [if_pos c2, hw, hNt]
        by_cases c3 : (W : Int) ≤ N
        · rw [if_pos c3]
          exact ih (i + 1) n1 p1 _ (by omega) (by omega) g6' (fun _ => hc (by omega))
        · rw [if_neg c3]
          exact ih (i + 1) n1 p1 _ (by omega) (by omega) g6' (fun _ => by rw [show min W N = i by omega])
      · rw [if_neg c2]
        exact ih (i + 1) n1 p1 _ (by omega) (by omega) g6' (fun _ => hc (by omega))
end TAB
set_option maxRecDepth 20000 in
theorem mnL_t {w v : Int64} {W N : Nat} (hw : w.toInt = W) (hv : v.toInt = N) (hN : N ≤ 50) : (mnL w v).toInt32.toInt = (min W N : Nat) := by
  unfold mnL
  by_cases c : v.toInt < w.toInt
  · rw [if_pos c, Int64.toInt_toInt32, hv, Int.bmod_eq_of_le (by omega) (by omega)]
    omega
  · rw [if_neg c, Int64.toInt_toInt32, hw, Int.bmod_eq_of_le (by omega) (by omega)]
    omega
section TBS
variable {fu g0 g i b lt h : Nat} {f : Nat → Int32} {n sp r : Int} {C : KCo} {M : KMe} {W1 : KW1} {W3 : KW3} {Wj : KWj} {W5 : KW5} {M1 : KM1} {Mp : KMp} {M3 : KM3} {Mj : KMj} {Ml : KMl} {M5 : KM5} {M6 : KM6} {ct : KCt} {X : SP} {R : List (Nat × Nat × Nat)} {af : KAf} {rr : KRr} {rl : KRl} {st vs : Nat → Int64} {mb : KMb} {ag : KAg} {my : KMy} {rg : KRg}
set_option maxRecDepth 20000 in
theorem s_14 (hfu : 100 < fu) (hX : CX f n C M W1 W3 Wj W5 M1 Mp M3 Mj Ml M5 M6 ct X) (hS : StI X M1 Mp M3 Mj Ml g0 g i b R lt h af rr rl st vs) (hm : MR M6 mb ag my rg) (hi : i < X.e g) (h0 : 0 ≤ sp) (h1 : sp + 1 ≤ 100000) (ho : C.ops i = 14) : SR X M1 Mp M3 Mj Ml M6 n g0 (sp + 1) lt r (f_Ma_takeStep fu C ct W1 W3 Wj W5 mb ag (KMa.mk sp 0 ((i + 1 : Nat) : Int)) (KAs.mk st h) af (C.ops i) i) (f_Mo_step fu r (KMc.mk (X.p g i + 1) n) my rg (KRs.mk vs h) rr rl (KMt.mk f n) M1 M3 Mj M5 M (C.ops i) (X.p g i)) := by
  obtain ⟨x, R0, e1, e2, e3, e4⟩ := hS.1.vals
  obtain ⟨d1, d2, d3, d4, d5, d6, d7⟩ := hS.dec hX hi
  obtain ⟨N, l, pq, ⟨j1, j2, j3⟩, j4, j5, j6, j7, j8⟩ := d7.2.2.1 ho
  have hn := hX.2.2.2.2.1
  have hlc := hX.2.2.2.2.2.1
  have hh := hS.2.2.2.2.2.2.2.1
  have ha := hS.2.2.2.2.2.2.2.2.1
  have hG := hS.gf hX
  have hs : X.s g ≤ i := hS.1.2.1
  have hV := hG.2.2.2.2.2.2.2.2.2.2.2.2.2.2
  have hst := hV.2.1 i hs hi
  have hv : (C.values i).toInt = N := by rw [j5, Int32.toInt_toInt64, iI_t (by omega)]
  have htg := (hV.2.2.2 i hs hi).2.2 ho
  rw [e1] at hst e2 e3
  unfold stAt at hst
  rw [ho] at hst
  unfold stV at hst
  simp only [Int.reduceEq, reduceIte, or_self] at hst
  rw [hv, j6, Int.toNat_natCast, Int.toNat_natCast] at hst
  obtain ⟨la, q1, hst⟩ := obnd_some hst
  obtain ⟨q2, hst⟩ := ite_some hst
  obtain ⟨y, q3, hst⟩ := obnd_some hst
  obtain ⟨z, q4, q5⟩ := omap_some hst
  obtain ⟨k1, k2, k3, k4, k5⟩ := popA_live q3 (Live.cons.mp e2).1
  have hpos : 0 < h := by rw [e3, tot_cons, k1, List.length_cons]; omega
  have hw := and32_t (st (h - 1))
  generalize hW : uL (st (h - 1)) % 2 ^ 32 = W at hw
  have hlab := tabOk_all _ _ q2 (min W N) (by omega)
  have hlg := Lbl_ge _ _ _ _ j8 (min W N) (by omega)
  obtain ⟨u, hu⟩ := Int.eq_ofNat_of_zero_le hlg.1
  rw [hu] at hlab
  have htt : ct.labelTargets (l + min W N) = tgt (X.k g i) u := by
    have := htg (l + min W N) (by show (C.extras i).toNat ≤ _ ∧ _ ≤ (C.extras i).toNat + (C.values i).toInt.toNat; rw [j6, hv]; omega)
    rwa [hu, Int.toNat_natCast] at this
  obtain ⟨ma', as', af', mc', rs', rr', rl', lb, goes, y1, y2, y3, y4, y5⟩ := br_both (sp := sp + 1) (r := r) (nx := ((i + 1 : Nat) : Int)) (c := X.p g (i + 1)) (x' := y.2) (l0 := [y.1]) (h' := h - 1) hX hS e1 k1 k5 rfl hlab q4
  refine sr_br hm y3 y4 y5 ?_ ?_
  · rw [ho, tk_ctl h0 h1 (by decide)]
    unfold f_Ma_performControl
    simp only [jp, Int.reduceEq, reduceIte]
    rw [cm_pop hpos hh, obind_ret]
    dsimp only
    rw [Int.toNat_natCast, mnL_t hw hv j4, j6]
    simp only [if_pos (show (0 : Int) ≤ (i : Int) ∧ (i : Int) < 2000 by omega), if_pos (show R32 ((l : Int) + (min W N : Nat)) by omega), if_pos (show (0 : Int) ≤ (l : Int) + (min W N : Nat) ∧ (l : Int) + (min W N : Nat) < 2000 by omega), show ((l : Int) + (min W N : Nat)).toNat = l + min W N by omega]
    rw [htt, y1, obind_ret, obind_ret]
  · rw [ho]
    unfold f_Mo_step f_Mo_table
    simp only [jp, Int.reduceEq, reduceIte]
    have hpq := Lbl_le _ _ _ _ j8
    rw [j3 fu r n n (by omega) (by omega) hn, obind2_ret, rm_pop hpos hh, obind_ret]
    dsimp only
    have tl := tb_loop (fu := fu) (f := f) (n := n) (r := r) (L := n) (rr := rr) (rl := rl) (lab := C.labels) (l := l) (x1 := (r, KMc.mk pq n, (N : Int))) (x3 := (KRs.mk vs ((h - 1 : Nat) : Int), vs (h - 1))) (by omega) d4 hn j4 rfl (W := W) (by show (vs (h - 1) &&& 4294967295).toInt = _; rw [ha (h - 1) (by omega)]; exact hw) (N + 1) 0 fu pq 0 (by omega) (by omega) j8 (fun q => absurd q (Nat.not_lt_zero _))
    rw [show ((0 : Nat) : Int) = 0 from rfl] at tl
    rw [tl, obind2_ret, hu]
    dsimp only
    rw [y2, obind2_ret, obind2_ret]
end TBS
