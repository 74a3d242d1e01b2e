/-! RUN: a call is entered -/
set_option maxRecDepth 20000 in
theorem pops_live {pt : Nat → Int} : ∀ (n : Nat) (x y : Fr), popsA pt n x = some y → lv x → (∀ p, p < n → 0 < pt p) → ∃ l : List Int, x.1 = l ++ y.1 ∧ l.length = n ∧ lv y ∧ y.2 = x.2 ∧ ∀ (st : Nat → Int64) (base : Nat) (rest : List Int), VT st base (l ++ rest) → ∀ p, p < n → pt p = 127 → R32 (st (base + (rest.length + p))).toInt
  | 0, x, y, h, hx, _ => by
    cases h
    exact ⟨[], rfl, rfl, hx, rfl, fun _ _ _ _ p hp _ => absurd hp (Nat.not_lt_zero p)⟩
  | n + 1, x, y, h, hx, hp => by
    obtain ⟨a, e1, e2⟩ := obnd_some h
    obtain ⟨k1, k2, k3, k4, k5⟩ := popA_live e1 hx
    obtain ⟨l, q1, q2, q3, q4, q5⟩ := pops_live n a.2 y e2 k4 (fun p h => hp p (by omega))
    refine ⟨a.1 :: l, by rw [k1, q1]; rfl, by rw [List.length_cons, q2], q3, q4.trans k5, fun st base rest hV p hp1 hp2 => ?_⟩
    have hV' : VT st base (a.1 :: (l ++ rest)) := hV
    by_cases c : p = n
    · have h9 := hV'.1 (by rw [k2 (hp n (by omega)), ← c]; exact hp2)
      rwa [List.length_append, q2, show n + rest.length = rest.length + p by omega] at h9
    · exact q5 st base rest hV'.2 p (by omega) hp2
/-- m zeros at h -/
def zr (st : Nat → Int64) (h m : Nat) : Nat → Int64 := fun k => if h ≤ k ∧ k < h + m then 0 else st k
set_option maxRecDepth 20000 in
theorem zr_lo {st : Nat → Int64} {h m k : Nat} (hk : k < h) : zr st h m k = st k := if_neg (by omega)
set_option maxRecDepth 20000 in
theorem zr_0 {st : Nat → Int64} {h : Nat} : zr st h 0 = st := funext fun k => if_neg (by omega)
set_option maxRecDepth 20000 in
theorem zr_s {st : Nat → Int64} {h m : Nat} : zr (vp_updL st h 0) (h + 1) m = zr st h (m + 1) := funext fun k => by
  unfold zr
  by_cases c : k = h
  · rw [if_neg (by omega), if_pos (by omega), c, updL_s]
  · by_cases c2 : h + 1 ≤ k ∧ k < h + 1 + m
    · rw [if_pos c2, if_pos (by omega)]
    · rw [if_neg c2, if_neg (by omega), updL_n c]
section CAL
variable {fu g0 u lt h : Nat} {f : Nat → Int32} {n sp r : Int} {C : KCo} {M : KMe} {W1 : KW1} {W3 : KW3} {Wj : KWj} {W5 : KW5} {M1 : KM1} {Mp : KMp} {M3 : KM3} {Mj : KMj} {Ml : KMl} {M5 : KM5} {M6 : KM6} {ct : KCt} {X : SP} {L : List (Nat × Nat × Nat)} {af : KAf} {rr : KRr} {rl : KRl} {st vs : Nat → Int64}
set_option maxRecDepth 20000 in
theorem en_c {ma : KMa} {lc : Nat} (hlc : Wj.localCounts u = lc) (hl : lc ≤ 60) : ∀ (j k n1 h : Nat) (st : Nat → Int64), k + j = lc → j < n1 → h + j ≤ 12096 → L95_Ma_enter fu Wj u n1 ma (KAs.mk st h) k = .ret (ma, KAs.mk (zr st h j) ((h + j : Nat) : Int), (lc : Int)) := by
  intro j
  induction j with
  | zero =>
    intro k n1 h st hk hn hh
    obtain ⟨n1, rfl⟩ : ∃ q, n1 = q + 1 := ⟨n1 - 1, by omega⟩
    have : k = lc := by omega
    subst this
    rw [L95_Ma_enter.eq_2, Int.toNat_natCast, if_pos (by omega), zr_0]
    rfl
  | succ j ih =>
    intro k n1 h st hk hn hh
    obtain ⟨n1, rfl⟩ : ∃ q, n1 = q + 1 := ⟨n1 - 1, by omega⟩
    rw [L95_Ma_enter.eq_2, Int.toNat_natCast, if_neg (by omega), cm_push, if_pos (by omega), obind_ret, if_pos (show R32 ((k : Int) + 1) by omega)]
    dsimp only
    rw [show ((k : Int) + 1) = ((k + 1 : Nat) : Int) by omega, ih (k + 1) n1 (h + 1) _ (by omega) (by omega) (by omega), zr_s, show h + 1 + j = h + (j + 1) by omega]
set_option maxRecDepth 20000 in
theorem en_r {mc : KMc} {rs : KRs} {back x5 : Int} {lc : Nat} (hu : u < 30) (hlc : Mj.localCount u = lc) (hl : lc ≤ 60) : ∀ (j k n1 h : Nat) (vs : Nat → Int64), k + j = lc → j < n1 → h ≤ 12096 → (h + j ≤ 12096 → L72_Mo_begin fu mc rs rr rl M1 Mj u back x5 n1 r (KRs.mk vs h) k = .ret (r, KRs.mk (zr vs h j) ((h + j : Nat) : Int), (lc : Int))) ∧ (¬ h + j ≤ 12096 → ∃ t, L72_Mo_begin fu mc rs rr rl M1 Mj u back x5 n1 r (KRs.mk vs h) k = .thr t ∧ t.1 = 7) := by
  intro j
  induction j with
  | zero =>
    intro k n1 h vs hk hn hh
    obtain ⟨n1, rfl⟩ : ∃ q, n1 = q + 1 := ⟨n1 - 1, by omega⟩
    have : k = lc := by omega
    subst this
    refine ⟨fun _ => ?_, fun q => absurd hh q⟩
    rw [L72_Mo_begin.eq_2, if_pos (by omega), Int.toNat_natCast, if_pos (by omega), zr_0]
    rfl
  | succ j ih =>
    intro k n1 h vs hk hn hh
    obtain ⟨n1, rfl⟩ : ∃ q, n1 = q + 1 := ⟨n1 - 1, by omega⟩
    rw [L72_Mo_begin.eq_2, if_pos (by omega), Int.toNat_natCast, if_neg (by omega), rm_push hh]
    by_cases c : h < 12096
    · rw [if_pos c, obind2_ret, if_pos (show R32 ((k : Int) + 1) by omega)]
      dsimp only
      rw [show ((k : Int) + 1) = ((k + 1 : Nat) : Int) by omega]
      obtain ⟨i1, i2⟩ := ih (k + 1) n1 (h + 1) (vp_updL vs h 0) (by omega) (by omega) (by omega)
      refine ⟨fun q => ?_, fun q => i2 (by omega)⟩
      rw [i1 (by omega), zr_s, show h + 1 + j = h + (j + 1) by omega]
    · rw [if_neg c, obind2_thr]
      exact ⟨fun q => absurd q (by omega), fun _ => ⟨_, rfl, rfl⟩⟩
set_option maxRecDepth 20000 in
/-- both enter a function -/
theorem en_both {nx c2 c : Int} {hb : Nat} (hfu : 100 < fu) (hX : CX f n C M W1 W3 Wj W5 M1 Mp M3 Mj Ml M5 M6 ct X) (hu : (u : Int) < M3.functions) (hF : FI X M1 Mp M3 Mj Ml af rr rl st L (res M1 M3 u) lt hb) (hh : (h : Int) = hb + pcn M1 M3 u) (h12 : h ≤ 12096) (hret : ∀ c R', L = c :: R' → nx = c.2.1 ∧ c2 = X.p c.1 c.2.1) (hty : ∀ p : Nat, (p : Int) < pcn M1 M3 u → ptp Mp M3 u p = 127 → R32 (st (hb + p)).toInt) (hd : af.depth = L.length) (hr : rr.frames = L.length) (hL : L.length ≤ 100) (hlt : rl.labelTop = lt) (ha : ∀ k, k < h → vs k = st k) (hg0 : ((u, X.s u, hb) :: L).getLast?.map Prod.fst = some g0) : (∃ (ma' : KMa) (as' : KAs) (af' : KAf) (mc' : KMc) (rs' : KRs) (rr' : KRr) (rl' : KRl), f_Ma_enter fu W1 W3 Wj (KMa.mk sp 0 nx) (KAs.mk st h) af u = .ret (ma', as', af') ∧ f_Mo_begin fu r (KMc.mk c n) (KRs.mk vs h) rr rl M1 M3 Mj u c2 = .ret (r, mc', rs', rr', rl') ∧ ma'.steps = sp ∧ RI X M1 Mp M3 Mj Ml n g0 ma' as' af' mc' rs' rr' rl' (lt + 1)) ∨ (∃ (t : KRf × KMc × KRs × KRr × KRl), f_Ma_enter fu W1 W3 Wj (KMa.mk sp 0 nx) (KAs.mk st h) af u = .ret (KMa.mk sp 7 nx, KAs.mk st h, af) ∧ f_Mo_begin fu r (KMc.mk c n) (KRs.mk vs h) rr rl M1 M3 Mj u c2 = .thr t ∧ t.1 = 7) := by
  have hM := hX.1
  have hG := hX.2.2.2.2.2.2.1 u hu
  obtain ⟨T1, t1, t2, t3, t4, t5, t6⟩ := hM.ty hu
  have hpc := hM.pc hu
  have hLo := hG.2.2.2.2.2.2.2.2.2.2.2.2.2.1
  obtain ⟨lc, hlc⟩ := Int.eq_ofNat_of_zero_le hLo.2.1
  have hlc2 : lc ≤ 60 := by have := hLo.2.2.1; omega
  have hlw : Wj.localCounts u = lc := hLo.1.trans hlc
  have hle := hF.le hX.k100
  have ebase : (h : Int) - pcn M1 M3 u = (hb : Int) := by omega
  have hnv : hb + nv M1 M3 Mj u = h + lc := by show hb + (pcn M1 M3 u + Mj.localCount u).toNat = h + lc; omega
  by_cases c100 : L.length = 100
  · right
    refine ⟨(7, KMc.mk c n, KRs.mk vs h, rr, rl), ?_, ?_, rfl⟩
    · unfold f_Ma_enter
      simp only [jp]
      rw [if_pos (by omega), if_pos (by omega)]
    · unfold f_Mo_begin
      simp only [jp]
      rw [if_pos (by omega)]
      rfl
  have hhe : (KAs.mk st (h : Int)).height = (h : Int) := rfl
  have e95 : h + lc ≤ 12096 → L95_Ma_enter fu Wj u fu (KMa.mk sp 0 nx) (KAs.mk st h) 0 = .ret (KMa.mk sp 0 nx, KAs.mk (zr st h lc) ((h + lc : Nat) : Int), (lc : Int)) := fun q => en_c (fu := fu) (ma := KMa.mk sp 0 nx) hlw hlc2 lc 0 fu h st (by omega) (by omega) q
  have e72 := fun (rs : KRs) (x5 : Int) => en_r (fu := fu) (r := r) (mc := KMc.mk c n) (rs := rs) (rr := rr) (rl := rl) (M1 := M1) (back := c2) (x5 := x5) t2 hlc hlc2 lc 0 fu h vs (by omega) (by omega) h12
  have eR : f_Mo_begin fu r (KMc.mk c n) (KRs.mk vs h) rr rl M1 M3 Mj u c2 = obind2 (L72_Mo_begin fu (KMc.mk c n) (KRs.mk vs h) rr rl M1 Mj u c2 (tyOf M3 u) fu r (KRs.mk vs h) 0) (fun y_16 => .ret (y_16.1, KMc.mk (Mj.codeAt u) n, y_16.2.1, KRr.mk (updZ rr.frameFunction L.length u) (updZ rr.frameReturn L.length c2) (updZ rr.frameBase L.length hb) (updZ rr.frameLabels L.length lt) ((L.length : Int) + 1), KRl.mk (updZ rl.labelAt lt (-1)) (updZ rl.labelHeight lt y_16.2.1.valueTop) ((lt : Int) + 1))) (fun t9 => .thr t9) := by
    unfold f_Mo_begin
    simp only [jp]
    rw [if_neg (show ¬ rr.frames = 100 by omega), show f_Mo_ends r false 7 = .ret r from rfl, obind2_ret, mo_ty hM hu, obind_ret, hr, hlt, Int.toNat_natCast, Int.toNat_natCast, Int.toNat_natCast, ebase]
    simp only [if_pos (show (0 : Int) ≤ (tyOf M3 u : Int) ∧ (tyOf M3 u : Int) < 20 by omega), if_pos (show (0 : Int) ≤ (L.length : Int) ∧ (L.length : Int) < 100 by omega), if_pos (show (0 : Int) ≤ (L.length : Int) ∧ (L.length : Int) < 101 by omega), if_pos (show R32 (hb : Int) by omega), if_pos (show R32 ((L.length : Int) + 1) by omega), if_pos (show (0 : Int) ≤ (lt : Int) ∧ (lt : Int) < 24000 by omega), if_pos (show R32 ((lt : Int) + 1) by omega), if_pos (show (0 : Int) ≤ (u : Int) ∧ (u : Int) < 30 by omega), Int.toNat_natCast]
  by_cases cs : h + lc ≤ 12096
  · left
    have eC : f_Ma_enter fu W1 W3 Wj (KMa.mk sp 0 nx) (KAs.mk st h) af u = .ret (KMa.mk sp 0 (Wj.starts u), KAs.mk (zr st h lc) ((h + lc : Nat) : Int), KAf.mk (updZ af.functions L.length u) (updZ af.bases L.length hb) (updZ af.returns L.length nx) ((L.length : Int) + 1) hb ((h + lc : Nat) : Int)) := by
      unfold f_Ma_enter
      simp only [jp]
      rw [hd]
      simp only [hhe, Int.toNat_natCast, hlw, if_pos (show (0 : Int) ≤ (u : Int) ∧ (u : Int) < 30 by omega), if_neg (show ¬ (100 : Int) ≤ (L.length : Int) by omega), if_pos (show R32 ((h : Int) + lc) by omega), if_pos (show (h : Int) + lc ≤ 12096 by omega), if_pos (show (0 : Int) ≤ (L.length : Int) ∧ (L.length : Int) < 100 by omega), if_pos (show R32 ((L.length : Int) + 1) by omega), wa_pc hM hu, obind_ret, ebase, if_pos (show R32 (hb : Int) by omega), e95 cs, show (L.length : Int) + 1 - 1 = (L.length : Int) by omega, if_pos (show R32 (L.length : Int) by omega), updZ_s]
    have f1 : L72_Mo_begin fu (KMc.mk c n) (KRs.mk vs h) rr rl M1 Mj u c2 (tyOf M3 u) fu r (KRs.mk vs h) 0 = .ret (r, KRs.mk (zr vs h lc) ((h + lc : Nat) : Int), (lc : Int)) := (e72 (KRs.mk vs h) (tyOf M3 u)).1 cs
    rw [f1, obind2_ret] at eR
    have hV := hG.2.2.2.2.2.2.2.2.2.2.2.2.2.2
    have hK0 : X.k u (X.s u) = [] := hG.2.2.2.2.2.2.2.2.1.1
    refine ⟨_, _, _, _, _, _, _, eC, eR, rfl, u, X.s u, hb, L, h + lc, ⟨⟨hu, Nat.le_refl _, hG.2.1, updZ_s _ _ _, updZ_s _ _ _, updZ_s _ _ _, updZ_s _ _ _, fun c R' q => ?_, fun k hk => ?_, ⟨([], false, res M1 M3 u, res M1 M3 u), [], hV.1, fun y hy => ?_, ?_, trivial⟩, lt, updZ_s _ _ _, updZ_s _ _ _, ?_, ?_, ?_⟩, ?_, rfl, ?_, ?_, ?_, by omega, cs, fun k hk => ?_, hg0⟩, rfl, hG.1, rfl, ?_, rfl⟩
    · obtain ⟨r1, r2⟩ := hret c R' q
      exact ⟨(updZ_s _ _ _).trans r1, (updZ_s _ _ _).trans r2⟩
    · show R32 (zr st h lc (hb + k)).toInt
      have hkl := locA_lt hk
      have hkl2 : hb + k < h + lc := by
        have hkl' : k < nv M1 M3 Mj u := hkl
        omega
      by_cases ck : (k : Int) < pcn M1 M3 u
      · rw [zr_lo (by omega)]
        unfold locA at hk
        have h9 := Option.some.inj (ite_some hk).2
        rw [if_pos ck, Int.toNat_natCast] at h9
        exact hty k ck h9
      · rw [show zr st h lc (hb + k) = 0 from if_pos (by omega)]
        decide
    · rw [List.mem_singleton.mp hy]; exact ⟨rfl, fun t ht => absurd ht List.not_mem_nil⟩
    · show h + lc = hb + nv M1 M3 Mj u + 0
      omega
    · show lt + 1 = lt + 1 + (X.k u (X.s u)).length
      rw [hK0]; rfl
    · show LB X u _ _ (lt + 1) (X.k u (X.s u))
      rw [hK0]; intro k o hko; cases hko
    · exact FI.cg hF (fun k hk => ⟨updZ_n (by omega), updZ_n (by omega), updZ_n (by omega), updZ_n (by omega), updZ_n (by omega), updZ_n (by omega), updZ_n (by omega)⟩) (fun k hk => ⟨updZ_n (by omega), updZ_n (by omega)⟩) (fun k hk => zr_lo (by have hk' : k < hb := hk; omega))
    · show (L.length : Int) + 1 = ((L.length + 1 : Nat) : Int)
      omega
    · show ((h + lc : Nat) : Int) = ((hb + nv M1 M3 Mj u : Nat) : Int)
      omega
    · show (L.length : Int) + 1 = ((L.length + 1 : Nat) : Int)
      omega
    · show (lt : Int) + 1 = ((lt + 1 : Nat) : Int)
      omega
    · show zr vs h lc k = zr st h lc k
      by_cases ck : h ≤ k
      · rw [show zr vs h lc k = 0 from if_pos (by omega), show zr st h lc k = 0 from if_pos (by omega)]
      · rw [zr_lo (by omega), zr_lo (by omega)]; exact ha k (by omega)
    · show KMc.mk (Mj.codeAt u) n = KMc.mk (X.p u (X.s u)) n
      rw [hG.2.2.2.2.1]
  · right
    obtain ⟨t, f1, f2⟩ := (e72 (KRs.mk vs h) (tyOf M3 u)).2 cs
    have f1' : L72_Mo_begin fu (KMc.mk c n) (KRs.mk vs h) rr rl M1 Mj u c2 (tyOf M3 u) fu r (KRs.mk vs h) 0 = .thr t := f1
    rw [f1', obind2_thr] at eR
    refine ⟨t, ?_, eR, f2⟩
    unfold f_Ma_enter
    simp only [jp]
    rw [if_pos (by omega), hd, if_neg (by omega), Int.toNat_natCast, hlw, hhe, if_pos (by omega), if_neg (by omega)]
set_option maxRecDepth 20000 in
theorem s_16 {g i b : Nat} {R : List (Nat × Nat × Nat)} {mb : KMb} {ag : KAg} {my : KMy} {rg : KRg} (hfu : 100 < fu) (hX : CX f n C M W1 W3 Wj W5 M1 Mp M3 Mj Ml M5 M6 ct X) (hS : StI X M1 Mp M3 Mj Ml g0 g i b R lt h af rr rl st vs) (hm : MR M6 mb ag my rg) (hi : i < X.e g) (h0 : 0 ≤ sp) (h1 : sp + 1 ≤ 100000) (ho : C.ops i = 16) : SR X M1 Mp M3 Mj Ml M6 n g0 (sp + 1) lt r (f_Ma_takeStep fu C ct W1 W3 Wj W5 mb ag (KMa.mk sp 0 ((i + 1 : Nat) : Int)) (KAs.mk st h) af (C.ops i) i) (f_Mo_step fu r (KMc.mk (X.p g i + 1) n) my rg (KRs.mk vs h) rr rl (KMt.mk f n) M1 M3 Mj M5 M (C.ops i) (X.p g i)) := by
  obtain ⟨x, y, R0, e1, e2, e3, e4, e5, e6, e7⟩ := hS.op hX hi (by omega)
  obtain ⟨d1, d2, d3, d4, d5, d6, d7⟩ := hS.dec hX hi
  obtain ⟨⟨j1, j2, j3⟩, j4, j5⟩ := d7.2.1 (by omega)
  obtain ⟨u, hu⟩ := Int.eq_ofNat_of_zero_le j4
  have hn := hX.2.2.2.2.1
  rw [ho] at e3; unfold opF at e3
  simp only [Int.reduceEq, reduceIte] at e3
  rw [hu, Int.toNat_natCast] at e3
  obtain ⟨q1, e3⟩ := ite_some e3
  obtain ⟨z, q2, q3⟩ := omap_some e3
  have hM := hX.1
  have hpc := hM.pc q1
  obtain ⟨l, p1, p2, p3, p4, p5⟩ := pops_live _ _ _ q2 e4 (fun p hp => by have := (hM.pt q1 (p := p) (by omega)).2; omega)
  obtain ⟨s1, s2, s3, s4, s5, s6, s7, s8, s9, s10⟩ := hS
  obtain ⟨a1, a2, a3, a4, a5, a6, a7, a8, a9, ⟨x9, R9, b1, b2, b3, b4⟩, lb, c1, c2, c3, c4, c5⟩ := s1
  dsimp only at *
  have hxx : x9 :: R9 = x :: R0 := by rw [← e1]; exact b1.symm
  rw [hxx] at b2 b3 b4
  have hfl : flat (x :: R0) = l ++ flat (z :: R0) := by show x.1 ++ flat R0 = l ++ (z.1 ++ flat R0); rw [p1, List.append_assoc]
  have hto : tot (x :: R0) = l.length + tot (z :: R0) := by show (flat (x :: R0)).length = _; rw [hfl, List.length_append]; rfl
  have hFI : FI X M1 Mp M3 Mj Ml af rr rl st ((g, i + 1, b) :: R) (res M1 M3 u) lt (b + nv M1 M3 Mj g + tot (z :: R0)) := by
    refine ⟨a1, e6, hi, a4, a5, a6, a7, a8, a9, ⟨z, R0, by show X.F g (i + 1) = _; rw [e2, q3], Live.cons.mpr ⟨p3, (Live.cons.mp b2).2⟩, rfl, ?_⟩, lb, c1, c2, by show lt = lb + 1 + (X.k g (i + 1)).length; rw [e5]; exact c3, by show LB X g _ rl lt (X.k g (i + 1)); rw [e5]; exact c4, c5⟩
    rw [hfl] at b4
    exact VT.app l _ b4
  have hv := v32 j4 j5
  rcases en_both (r := r) (sp := sp + 1) (u := u) (nx := ((i + 1 : Nat) : Int)) (c2 := X.p g (i + 1)) (c := X.p g (i + 1)) (g0 := g0) (vs := vs) (h := h) hfu hX q1 hFI (by omega) s8 (fun c R' q => by cases q; exact ⟨rfl, rfl⟩) (fun p hp1 hp2 => by
      have := p5 st (b + nv M1 M3 Mj g) (flat (z :: R0)) (by rw [← hfl]; exact b4) p (by omega) hp2
      rwa [show b + nv M1 M3 Mj g + ((flat (z :: R0)).length + p) = b + nv M1 M3 Mj g + tot (z :: R0) + p from (Nat.add_assoc _ _ _).symm] at this) s2 s5 (by rw [List.length_cons]; omega) s6 s9 (by cases R with
        | nil => exact s10
        | cons a R' => exact s10) with ⟨ma', as', af', mc', rs', rr', rl', f1, f2, f3, f4⟩ | ⟨t, f1, f2, f3⟩
  · refine Or.inl ⟨mb, ag, ma', as', af', mc', my, rg, rs', rr', rl', lt + 1, ?_, ?_, f3, hm, f4, Nat.le_refl _⟩
    · rw [ho, tk_ctl h0 h1 (by decide)]
      unfold f_Ma_performControl
      simp only [jp, Int.reduceEq, reduceIte]
      rw [if_pos (by omega), Int.toNat_natCast, hv, hu, f1, obind_ret, obind_ret]
    · rw [ho]
      unfold f_Mo_step
      simp only [jp, Int.reduceEq, reduceIte]
      rw [j3 fu r n n (by omega) d4 hn, obind2_ret, hu]
      dsimp only
      rw [f2, obind2_ret]
  · refine sr_no (af := af) (c := 7) (nx := ((i + 1 : Nat) : Int)) (as := KAs.mk st h) (mc := t.2.1) (rs := t.2.2.1) (rr' := t.2.2.2.1) (rl' := t.2.2.2.2) (by decide) hm ?_ ?_
    · rw [ho, tk_ctl h0 h1 (by decide)]
      unfold f_Ma_performControl
      simp only [jp, Int.reduceEq, reduceIte]
      rw [if_pos (by omega), Int.toNat_natCast, hv, hu, f1, obind_ret, obind_ret]
    · rw [ho]
      unfold f_Mo_step
      simp only [jp, Int.reduceEq, reduceIte]
      rw [j3 fu r n n (by omega) d4 hn, obind2_ret, hu]
      dsimp only
      rw [f2, obind2_thr, f3]
end CAL

/-! RUN: tables of branches -/
set_option maxRecDepth 20000 in
theorem and32 (x : Int64) : uL (x &&& 4294967295) = uL x % 2 ^ 32 := by
  unfold uL
  rw [Int64.toBitVec_and, BitVec.toNat_and, show (4294967295 : Int64).toBitVec.toNat = 2 ^ 32 - 1 from by decide]
  exact Nat.and_two_pow_sub_one_eq_mod _ 32
set_option maxRecDepth 20000 in
theorem and32_t (x : Int64) : (x &&& 4294967295).toInt = (uL x % 2 ^ 32 : Nat) := by
  have h := and32 x
  have h2 : uL x % 2 ^ 32 < 2 ^ 32 := Nat.mod_lt _ (by decide)
  rw [uL_toInt (by omega), h]
set_option maxRecDepth 20000 in
theorem Lbl_le {f : Nat → Int32} {lab : Nat → Int} : ∀ (m l : Nat) (p q : Int), Lbl f lab m l p q → p ≤ q
  | 0, _, _, _, h => Int.le_of_eq h
  | m + 1, l, p, q, h => by
    obtain ⟨p1, h1, h2, h3, h4⟩ := h
    have := Lbl_le m (l + 1) p1 q h4
    have := h1.2.1
    omega
set_option maxRecDepth 20000 in
theorem Lbl_ge {f : Nat → Int32} {lab : Nat → Int} : ∀ (m l : Nat) (p q : Int), Lbl f lab m l p q → ∀ j, j < m → 0 ≤ lab (l + j) ∧ lab (l + j) ≤ 2147483647
  | 0, _, _, _, _ => fun j hj => absurd hj (Nat.not_lt_zero j)
  | m + 1, l, p, q, h => fun j hj => by
    obtain ⟨p1, h1, h2, h3, h4⟩ := h
    by_cases c : j = 0
    · subst c; exact ⟨h2, h3⟩
    · have := Lbl_ge m (l + 1) p1 q h4 (j - 1) (by omega)
      rwa [show l + 1 + (j - 1) = l + j by omega] at this
section TAB
variable {fu : Nat} {f : Nat → Int32} {n r L q : Int} {lab : Nat → Int} {rr : KRr} {rl : KRl}
set_option maxRecDepth 20000 in
theorem tb_loop (hfu : 10 < fu) (hqL : q ≤ L) (hL : L ≤ 2000) {N W l : Nat} (hN : N ≤ 50) {x1 : KRf × KMc × Int} (hx : x1.2.2 = N) {x3 : KRs × Int64} (hw : (x3.2 &&& 4294967295).toInt = W) : ∀ (j i n1 : Nat) (p ch : Int), i + j = N + 1 → j < n1 → Lbl f lab j (l + i) p q → (min W N < i → ch = lab (l + min W N)) → L23_Mo_table fu rr rl (KMt.mk f n) x1 x3 n1 r (KMc.mk p L) ch i = .ret (r, KMc.mk q L, lab (l + min W N), ((N + 1 : Nat) : Int)) := by
  intro j
  induction j with
  | zero =>
    intro i n1 p ch hi hn hl hc
    obtain ⟨n1, rfl⟩ : ∃ q, n1 = q + 1 := ⟨n1 - 1, by omega⟩
    have hi2 : i = N + 1 := by omega
    subst hi2
    have hpq : p = q := hl
    rw [L23_Mo_table.eq_2, hx, if_pos (by omega), hpq, hc (by omega)]
  | succ j ih =>
    intro i n1 p ch hi hn hl hc
    obtain ⟨n1, rfl⟩ : ∃ q, n1 = q + 1 := ⟨n1 - 1, by omega⟩
    obtain ⟨p1, ⟨g1, g2, g3⟩, g4, g5, g6⟩ := hl
    have hp1 := Lbl_le _ _ _ _ g6
    rw [L23_Mo_table.eq_2, hx, if_neg (by omega), g3 fu r n L (by omega) (by omega) hL, obind2_ret]
    simp only [jp, if_pos (show R32 ((i : Int) + 1) by omega)]
    have hiW : ((iI (i : Int)).toInt64 = x3.2 &&& 4294967295) ↔ i = W := by
      constructor
      · intro h
        have h9 := congrArg Int64.toInt h
        rw [Int32.toInt_toInt64, iI_t (by omega), hw] at h9
        omega
      · intro h
        apply Int64.toInt_inj.mp
        rw [Int32.toInt_toInt64, iI_t (by omega), hw, h]
    have hNt : ((iI (N : Int)).toInt64).toInt = N := by rw [Int32.toInt_toInt64, iI_t (by omega)]
    have e9 : ((i : Int) + 1) = ((i + 1 : Nat) : Int) := by omega
    have g6' : Lbl f lab j (l + (i + 1)) p1 q := g6
    rw [e9]
    by_cases c : i = W
    · rw [if_pos (hiW.mpr c)]
      exact ih (i + 1) n1 p1 _ (by omega) (by omega) g6' (fun _ => by rw [show min W N = i by omega])
    · rw [if_neg (fun q => c (hiW.mp q))]
      by_cases c2 : (i : Int) = (N : Int)
      · rw [if_pos c2, hw, hNt]
        by_cases c3 : (W : Int) ≤ N
        · rw [if_pos c3]
          exact ih (i + 1) n1 p1 _ (by omega) (by omega) g6' (fun _ => hc (by omega))
        · rw [if_neg c3]
          exact ih (i + 1) n1 p1 _ (by omega) (by omega) g6' (fun _ => by rw [show min W N = i by omega])
      · rw [if_neg c2]
        exact ih (i + 1) n1 p1 _ (by omega) (by omega) g6' (fun _ => hc (by omega))
end TAB
set_option maxRecDepth 20000 in
theorem mnL_t {w v : Int64} {W N : Nat} (hw : w.toInt = W) (hv : v.toInt = N) (hN : N ≤ 50) : (mnL w v).toInt32.toInt = (min W N : Nat) := by
  unfold mnL
  by_cases c : v.toInt < w.toInt
  · rw [if_pos c, Int64.toInt_toInt32, hv, Int.bmod_eq_of_le (by omega) (by omega)]
    omega
  · rw [if_neg c, Int64.toInt_toInt32, hw, Int.bmod_eq_of_le (by omega) (by omega)]
    omega
section TBS
variable {fu g0 g i b lt h : Nat} {f : Nat → Int32} {n sp r : Int} {C : KCo} {M : KMe} {W1 : KW1} {W3 : KW3} {Wj : KWj} {W5 : KW5} {M1 : KM1} {Mp : KMp} {M3 : KM3} {Mj : KMj} {Ml : KMl} {M5 : KM5} {M6 : KM6} {ct : KCt} {X : SP} {R : List (Nat × Nat × Nat)} {af : KAf} {rr : KRr} {rl : KRl} {st vs : Nat → Int64} {mb : KMb} {ag : KAg} {my : KMy} {rg : KRg}
set_option maxRecDepth 20000 in
theorem s_14 (hfu : 100 < fu) (hX : CX f n C M W1 W3 Wj W5 M1 Mp M3 Mj Ml M5 M6 ct X) (hS : StI X M1 Mp M3 Mj Ml g0 g i b R lt h af rr rl st vs) (hm : MR M6 mb ag my rg) (hi : i < X.e g) (h0 : 0 ≤ sp) (h1 : sp + 1 ≤ 100000) (ho : C.ops i = 14) : SR X M1 Mp M3 Mj Ml M6 n g0 (sp + 1) lt r (f_Ma_takeStep fu C ct W1 W3 Wj W5 mb ag (KMa.mk sp 0 ((i + 1 : Nat) : Int)) (KAs.mk st h) af (C.ops i) i) (f_Mo_step fu r (KMc.mk (X.p g i + 1) n) my rg (KRs.mk vs h) rr rl (KMt.mk f n) M1 M3 Mj M5 M (C.ops i) (X.p g i)) := by
  obtain ⟨x, R0, e1, e2, e3, e4⟩ := hS.1.vals
  obtain ⟨d1, d2, d3, d4, d5, d6, d7⟩ := hS.dec hX hi
  obtain ⟨N, l, pq, ⟨j1, j2, j3⟩, j4, j5, j6, j7, j8⟩ := d7.2.2.1 ho
  have hn := hX.2.2.2.2.1
  have hlc := hX.2.2.2.2.2.1
  have hh := hS.2.2.2.2.2.2.2.1
  have ha := hS.2.2.2.2.2.2.2.2.1
  have hG := hS.gf hX
  have hs : X.s g ≤ i := hS.1.2.1
  have hV := hG.2.2.2.2.2.2.2.2.2.2.2.2.2.2
  have hst := hV.2.1 i hs hi
  have hv : (C.values i).toInt = N := by rw [j5, Int32.toInt_toInt64, iI_t (by omega)]
  have htg := (hV.2.2.2 i hs hi).2.2 ho
  rw [e1] at hst e2 e3
  unfold stAt at hst
  rw [ho] at hst
  unfold stV at hst
  simp only [Int.reduceEq, reduceIte, or_self] at hst
  rw [hv, j6, Int.toNat_natCast, Int.toNat_natCast] at hst
  obtain ⟨la, q1, hst⟩ := obnd_some hst
  obtain ⟨q2, hst⟩ := ite_some hst
  obtain ⟨y, q3, hst⟩ := obnd_some hst
  obtain ⟨z, q4, q5⟩ := omap_some hst
  obtain ⟨k1, k2, k3, k4, k5⟩ := popA_live q3 (Live.cons.mp e2).1
  have hpos : 0 < h := by rw [e3, tot_cons, k1, List.length_cons]; omega
  have hw := and32_t (st (h - 1))
  generalize hW : uL (st (h - 1)) % 2 ^ 32 = W at hw
  have hlab := tabOk_all _ _ q2 (min W N) (by omega)
  have hlg := Lbl_ge _ _ _ _ j8 (min W N) (by omega)
  obtain ⟨u, hu⟩ := Int.eq_ofNat_of_zero_le hlg.1
  rw [hu] at hlab
  have htt : ct.labelTargets (l + min W N) = tgt (X.k g i) u := by
    have := htg (l + min W N) (by show (C.extras i).toNat ≤ _ ∧ _ ≤ (C.extras i).toNat + (C.values i).toInt.toNat; rw [j6, hv]; omega)
    rwa [hu, Int.toNat_natCast] at this
  obtain ⟨ma', as', af', mc', rs', rr', rl', lb, goes, y1, y2, y3, y4, y5⟩ := br_both (sp := sp + 1) (r := r) (nx := ((i + 1 : Nat) : Int)) (c := X.p g (i + 1)) (x' := y.2) (l0 := [y.1]) (h' := h - 1) hX hS e1 k1 k5 rfl hlab q4
  refine sr_br hm y3 y4 y5 ?_ ?_
  · rw [ho, tk_ctl h0 h1 (by decide)]
    unfold f_Ma_performControl
    simp only [jp, Int.reduceEq, reduceIte]
    rw [cm_pop hpos hh, obind_ret]
    dsimp only
    rw [Int.toNat_natCast, mnL_t hw hv j4, j6]
    simp only [if_pos (show (0 : Int) ≤ (i : Int) ∧ (i : Int) < 2000 by omega), if_pos (show R32 ((l : Int) + (min W N : Nat)) by omega), if_pos (show (0 : Int) ≤ (l : Int) + (min W N : Nat) ∧ (l : Int) + (min W N : Nat) < 2000 by omega), show ((l : Int) + (min W N : Nat)).toNat = l + min W N by omega]
    rw [htt, y1, obind_ret, obind_ret]
  · rw [ho]
    unfold f_Mo_step f_Mo_table
    simp only [jp, Int.reduceEq, reduceIte]
    have hpq := Lbl_le _ _ _ _ j8
    rw [j3 fu r n n (by omega) (by omega) hn, obind2_ret, rm_pop hpos hh, obind_ret]
    dsimp only
    have tl := tb_loop (fu := fu) (f := f) (n := n) (r := r) (L := n) (rr := rr) (rl := rl) (lab := C.labels) (l := l) (x1 := (r, KMc.mk pq n, (N : Int))) (x3 := (KRs.mk vs ((h - 1 : Nat) : Int), vs (h - 1))) (by omega) d4 hn j4 rfl (W := W) (by show (vs (h - 1) &&& 4294967295).toInt = _; rw [ha (h - 1) (by omega)]; exact hw) (N + 1) 0 fu pq 0 (by omega) (by omega) j8 (fun q => absurd q (Nat.not_lt_zero _))
    rw [show ((0 : Nat) : Int) = 0 from rfl] at tl
    rw [tl, obind2_ret, hu]
    dsimp only
    rw [y2, obind2_ret, obind2_ret]
end TBS

/-! RUN: the size of the memory -/
section MSZ
variable {fu g0 g i b lt h : Nat} {f : Nat → Int32} {n sp r : Int} {C : KCo} {M : KMe} {W1 : KW1} {W3 : KW3} {Wj : KWj} {W5 : KW5} {M1 : KM1} {Mp : KMp} {M3 : KM3} {Mj : KMj} {Ml : KMl} {M5 : KM5} {M6 : KM6} {ct : KCt} {X : SP} {R : List (Nat × Nat × Nat)} {af : KAf} {rr : KRr} {rl : KRl} {st vs : Nat → Int64} {mb : KMb} {ag : KAg} {my : KMy} {rg : KRg}
set_option maxRecDepth 20000 in
theorem ms_mem {mc : KMc} {rs : KRs} {t : KMt} {o a : Int} (ho : ldst o ∨ o = 63 ∨ o = 64) : f_Mo_step fu r mc my rg rs rr rl t M1 M3 Mj M5 M o a = obind2 (f_Mo_memoryStep fu r mc my rg rs t M5 o) (fun x => .ret (x.1, x.2.1, x.2.2.1, x.2.2.2.1, x.2.2.2.2, rr, rl, true)) (fun x => .thr (x.1, x.2.1, x.2.2.1, x.2.2.2.1, x.2.2.2.2, rr, rl)) := by
  unfold f_Mo_step
  simp only [jp]
  repeat (first | rw [if_neg (by omega)] | rw [if_pos (by omega)])
set_option maxRecDepth 20000 in
theorem s_63 (hX : CX f n C M W1 W3 Wj W5 M1 Mp M3 Mj Ml M5 M6 ct X) (hS : StI X M1 Mp M3 Mj Ml g0 g i b R lt h af rr rl st vs) (hm : MR M6 mb ag my rg) (hi : i < X.e g) (h0 : 0 ≤ sp) (h1 : sp + 1 ≤ 100000) (ho : C.ops i = 63) : SR X M1 Mp M3 Mj Ml M6 n g0 (sp + 1) lt r (f_Ma_takeStep fu C ct W1 W3 Wj W5 mb ag (KMa.mk sp 0 ((i + 1 : Nat) : Int)) (KAs.mk st h) af (C.ops i) i) (f_Mo_step fu r (KMc.mk (X.p g i + 1) n) my rg (KRs.mk vs h) rr rl (KMt.mk f n) M1 M3 Mj M5 M (C.ops i) (X.p g i)) := by
  obtain ⟨x, y, R0, e1, e2, e3, e4, e5, e6, e7⟩ := hS.op hX hi (by omega)
  obtain ⟨d1, d2, d3, d4, d5, d6, d7⟩ := hS.dec hX hi
  have hn := hX.2.2.2.2.1
  have hp : X.p g (i + 1) = X.p g i + 1 + 1 := (d7.2.2.2.2.1 (Or.inl ho)).1
  rw [ho] at e3; unfold opF at e3
  simp only [Int.reduceEq, Int.reduceLE, reduceIte] at e3
  obtain ⟨q1, e3⟩ := ite_some e3
  have q2 := Option.some.inj e3
  obtain ⟨y1, y2⟩ := pushA_live (t := 127) (x := x) (by omega) e4
  rw [q2] at y1 y2
  have hpg := hm.2.1
  have hp0 := hm.2.2.1
  have hp2 := hm.2.2.2.1
  have hv : R32 ((iI rg.pages).toInt64).toInt := by rw [Int32.toInt_toInt64, iI_t (by omega)]; omega
  refine sr_push (h' := h) (l := []) (l' := x.1) (t := 127) (v := (iI rg.pages).toInt64) (v' := (iI rg.pages).toInt64) hS e1 hi e5 e2 y1 rfl y2 rfl (fun _ => hv) rfl rfl hm ?_ ?_
  · rw [ho, tk_mem h0 h1 (by decide) (by decide)]
    unfold f_Ma_performMemory
    simp only [jp, Int.reduceEq, reduceIte]
    rw [hpg, cm_push]
    by_cases c : h < 12096
    · simp only [if_pos c, obind_ret]
    · simp only [if_neg c, obind_ret]
  · rw [ho, ms_mem (Or.inr (Or.inl rfl))]
    unfold f_Mo_memoryStep
    simp only [jp, Int.reduceEq, reduceIte]
    have hcu : (KMc.mk (X.p g i + 1) n).cursor + 1 = X.p g (i + 1) := hp.symm
    rw [hcu, if_pos (by omega), rm_push hS.2.2.2.2.2.2.2.1]
    by_cases c : h < 12096
    · simp only [if_pos c, obind2_ret]
    · simp only [if_neg c, obind2_thr]
set_option maxRecDepth 20000 in
theorem s_64 (hX : CX f n C M W1 W3 Wj W5 M1 Mp M3 Mj Ml M5 M6 ct X) (hS : StI X M1 Mp M3 Mj Ml g0 g i b R lt h af rr rl st vs) (hm : MR M6 mb ag my rg) (hi : i < X.e g) (h0 : 0 ≤ sp) (h1 : sp + 1 ≤ 100000) (ho : C.ops i = 64) : SR X M1 Mp M3 Mj Ml M6 n g0 (sp + 1) lt r (f_Ma_takeStep fu C ct W1 W3 Wj W5 mb ag (KMa.mk sp 0 ((i + 1 : Nat) : Int)) (KAs.mk st h) af (C.ops i) i) (f_Mo_step fu r (KMc.mk (X.p g i + 1) n) my rg (KRs.mk vs h) rr rl (KMt.mk f n) M1 M3 Mj M5 M (C.ops i) (X.p g i)) := by
  obtain ⟨x, y, R0, e1, e2, e3, e4, e5, e6, e7⟩ := hS.op hX hi (by omega)
  obtain ⟨d1, d2, d3, d4, d5, d6, d7⟩ := hS.dec hX hi
  have hn := hX.2.2.2.2.1
  have hh := hS.2.2.2.2.2.2.2.1
  have ha := hS.2.2.2.2.2.2.2.2.1
  have hp : X.p g (i + 1) = X.p g i + 1 + 1 := (d7.2.2.2.2.1 (Or.inr ho)).1
  rw [ho] at e3; unfold opF at e3
  simp only [Int.reduceEq, Int.reduceLE, reduceIte] at e3
  obtain ⟨q1, e3⟩ := ite_some e3
  obtain ⟨z, q2, q3⟩ := omap_some e3
  obtain ⟨k1, k2, k3, k4, k5⟩ := popA_live q2 e4
  obtain ⟨y1, y2⟩ := pushA_live (t := 127) (x := z.2) (by omega) k4
  rw [q3] at y1 y2
  have hpos : 0 < h := by rw [e7, tot_cons, k1, List.length_cons]; omega
  -- the memory that is there
  have hmost : W5.pagesMost = M5.most := by
    rcases hX.2.1 with ⟨w1, w2⟩ | ⟨wx, wy, wh, w1, w2, _⟩
    · rw [show hasM M5 = false from decide_eq_false (by rw [w2]; decide)] at q1; cases q1
    · rw [w1, w2]
  obtain ⟨m1, m2, m3, m4, m5, m6, m7⟩ := hm
  have hw := and32_t (st (h - 1))
  have hwl : uL (st (h - 1)) % 2 ^ 32 < 2 ^ 32 := Nat.mod_lt _ (by decide)
  generalize uL (st (h - 1)) % 2 ^ 32 = W at hw hwl
  have hpt : ((iI rg.pages).toInt64).toInt = rg.pages := by rw [Int32.toInt_toInt64, iI_t (by omega)]
  have hsum : (((iI rg.pages).toInt64) + (st (h - 1) &&& 4294967295)).toInt = rg.pages + W := by
    rw [Int64.toInt_add, hpt, hw, Int.bmod_eq_of_le (by omega) (by omega)]
  have h2 : (2 : Int64).toInt = 2 := by decide
  have hmn : ∀ a : Int, a ≤ (mnL M5.most 2).toInt ↔ ¬ M5.most.toInt < a ∧ ¬ (2 : Int) < a := by
    intro a
    unfold mnL
    rw [h2]
    by_cases c : (2 : Int) < M5.most.toInt
    · rw [if_pos c, h2]; omega
    · rw [if_neg c]; omega
  have hF := fun (v : Int64) (hv : (127 : Int) = 127 → R32 v.toInt) => hS.1.pp (i' := i + 1) (l := [z.1]) (v := v) e1 (by omega) (by omega) e5 e2 y1 (show x.1 = [z.1] ++ z.2.1 from k1) y2 hv
  have hF' : ∀ v : Int64, R32 v.toInt → FI X M1 Mp M3 Mj Ml af rr rl (vp_updL st (h - 1) v) ((g, i + 1, b) :: R) 0 lt (h - 1 + 1) := fun v hv => hF v (fun _ => hv)
  have hagr : ∀ (v : Int64) (k : Nat), k < h - 1 + 1 → vp_updL vs (h - 1) v k = vp_updL st (h - 1) v k := fun v k hk => ag_set ha (by omega) hk
  have hcu : (KMc.mk (X.p g i + 1) n).cursor + 1 = X.p g (i + 1) := hp.symm
  by_cases c : rg.pages + (W : Int) ≤ (mnL M5.most 2).toInt
  · have c' := (hmn _).mp c
    have hnew : ((iI rg.pages) + ((st (h - 1) &&& 4294967295).toInt32)).toInt = rg.pages + W := by
      rw [Int32.toInt_add, iI_t (by omega), Int64.toInt_toInt32, hw, Int.bmod_eq_of_le (n := (W : Int)) (by omega) (by omega), Int.bmod_eq_of_le (by omega) (by omega)]
    have hm' : MR M6 mb (KAg.mk ag.written (rg.pages + W) ag.globals) my (KRg.mk (rg.pages + W) rg.globals) := ⟨m1, rfl, (by show 0 ≤ rg.pages + (W : Int); omega), (by show rg.pages + (W : Int) ≤ 2; omega), m5, m6, m7⟩
    refine sr_go hS (hF' ((iI rg.pages).toInt64) (by rw [hpt]; omega)) (by omega) (hagr _) hm' ?_ ?_
    · rw [ho, tk_mem h0 h1 (by decide) (by decide)]
      unfold f_Ma_performMemory f_Ma_grow
      simp only [jp, Int.reduceEq, reduceIte]
      rw [cm_pop hpos hh, obind_ret]
      dsimp only
      rw [m2, hsum, hmost, if_pos c, cm_push, if_pos (by omega), hnew]
      rfl
    · rw [ho, ms_mem (Or.inr (Or.inr rfl))]
      unfold f_Mo_memoryStep
      simp only [jp, Int.reduceEq, reduceIte]
      rw [hcu, if_pos (by omega), rm_pop hpos hh, obind_ret]
      dsimp only
      rw [ha (h - 1) (by omega), hsum, if_neg c'.1, h2, if_neg c'.2, rm_push (by omega), if_pos (by omega), hnew]
      rfl
  · have c' : ¬ (¬ M5.most.toInt < rg.pages + W ∧ ¬ (2 : Int) < rg.pages + W) := fun q => c ((hmn _).mpr q)
    refine sr_go hS (hF' (-1) (by decide)) (by omega) (hagr _) ⟨m1, m2, m3, m4, m5, m6, m7⟩ ?_ ?_
    · rw [ho, tk_mem h0 h1 (by decide) (by decide)]
      unfold f_Ma_performMemory f_Ma_grow
      simp only [jp, Int.reduceEq, reduceIte]
      rw [cm_pop hpos hh, obind_ret]
      dsimp only
      rw [m2, hsum, hmost, if_neg c, cm_push, if_pos (by omega)]
      rfl
    · rw [ho, ms_mem (Or.inr (Or.inr rfl))]
      unfold f_Mo_memoryStep
      simp only [jp, Int.reduceEq, reduceIte]
      rw [hcu, if_pos (by omega), rm_pop hpos hh, obind_ret]
      dsimp only
      rw [ha (h - 1) (by omega), hsum, h2]
      simp only [Bool.false_eq_true, reduceIte]
      rw [rm_push (by omega), if_pos (show h - 1 < 12096 by omega)]
      by_cases c1 : M5.most.toInt < rg.pages + W
      · rw [if_pos c1]; rfl
      · rw [if_neg c1, if_pos (show (2 : Int) < rg.pages + W by omega)]; rfl
end MSZ

/-! RUN: loads -/
set_option maxRecDepth 20000 in
theorem byt (x : Int32) : (iI (by8 x)).toInt64 = x.toInt64 &&& 255 := by
  unfold by8
  rw [show iI ((x &&& 255).toInt) = x &&& 255 from Int32.ofInt_toInt _, Int32.toInt64_and]
  rfl
set_option maxRecDepth 20000 in
theorem adr {a : Int64} {A k : Nat} (hA : a.toInt = A) (hk : A + k < 131072) : (a.toInt32 + iI (k : Int)).toInt = ((A + k : Nat) : Int) ∧ a.toInt32.toInt = (A : Int) := by
  have h1 : a.toInt32.toInt = (A : Int) := by rw [v32 (by omega) (by omega), hA]
  refine ⟨?_, h1⟩
  rw [Int32.toInt_add, h1, iI_t (by omega), Int.bmod_eq_of_le (by omega) (by omega)]
  omega
section LDL
variable {fu : Nat} {mb : KMb} {my : KMy} {a : Int64} {A : Nat} {x27 : KRf × KMc × Int64} {x33 : KRs × Int64}
set_option maxRecDepth 20000 in
theorem ld_loop (hA : a.toInt = A) (hx : (x33.2 &&& 4294967295) + x27.2.2 = a) (hm : ∀ k, k < 131072 → mb.bytes k = my.memory k) : ∀ (j n1 n2 : Nat) (v : Int64), A + j ≤ 131072 → j < n1 → j < n2 → ∃ w, L26_Ma_load fu mb a n1 v ((j : Int) - 1) = .ret (w, -1) ∧ L281_Mo_memoryStep fu my x27 x33 n2 v ((j : Int) - 1) = .ret (w, -1) ∧ (j = 1 → v = 0 → w = (my.memory A).toInt64 &&& 255) := by
  intro j
  induction j with
  | zero =>
    intro n1 n2 v hj h1 h2
    obtain ⟨n1, rfl⟩ : ∃ q, n1 = q + 1 := ⟨n1 - 1, by omega⟩
    obtain ⟨n2, rfl⟩ : ∃ q, n2 = q + 1 := ⟨n2 - 1, by omega⟩
    exact ⟨v, by rw [L26_Ma_load.eq_2, if_pos (by decide)]; rfl, by rw [L281_Mo_memoryStep.eq_2, if_pos (by decide)]; rfl, fun q => absurd q (by decide)⟩
  | succ j ih =>
    intro n1 n2 v hj h1 h2
    obtain ⟨n1, rfl⟩ : ∃ q, n1 = q + 1 := ⟨n1 - 1, by omega⟩
    obtain ⟨n2, rfl⟩ : ∃ q, n2 = q + 1 := ⟨n2 - 1, by omega⟩
    have ek : ((j + 1 : Nat) : Int) - 1 = (j : Int) := by omega
    obtain ⟨b1, b2⟩ := adr (k := j) hA (by omega)
    obtain ⟨w, w1, w2, w3⟩ := ih n1 n2 ((v <<< ((iI 8).toInt64 &&& 63)) ||| ((my.memory (A + j)).toInt64 &&& 255)) (by omega) (by omega) (by omega)
    refine ⟨w, ?_, ?_, fun q1 q2 => ?_⟩
    · rw [L26_Ma_load.eq_2, ek, if_neg (by omega), b1, if_pos (by omega), if_pos (by omega), Int.toNat_natCast, hm _ (by omega), byt, show (j : Int) + (-1) = (j : Int) - 1 from rfl]
      exact w1
    · rw [L281_Mo_memoryStep.eq_2, ek, if_neg (by omega), hx, b2, show (A : Int) + (j : Int) = ((A + j : Nat) : Int) by omega, if_pos (by omega), if_pos (by omega), if_pos (by omega), Int.toNat_natCast, show (j : Int) + (-1) = (j : Int) - 1 from rfl]
      exact w2
    · have hj0 : j = 0 := by omega
      subst hj0 q2
      obtain ⟨n1, rfl⟩ : ∃ q, n1 = q + 1 := ⟨n1 - 1, by omega⟩
      rw [L26_Ma_load.eq_2, if_pos (by decide)] at w1
      have h9 := congrArg (fun o : Out Empty (Int64 × Int) => o) w1
      have h10 : ((0 : Int64) <<< ((iI 8).toInt64 &&& 63)) ||| ((my.memory (A + 0)).toInt64 &&& 255) = w := by
        cases w1; rfl
      rw [← h10, Int64.zero_shiftLeft, Int64.zero_or]
      rfl
end LDL

/-! RUN: loads, whole -/
abbrev wdt (o : Int) : Nat := if o = 41 ∨ o = 55 then 8 else if o = 40 ∨ o = 54 then 4 else 1
abbrev cvt (o : Int) (w : Int64) : Int64 := if o = 40 then w.toInt32.toInt64 else if o = 44 then w.toInt32.toInt8.toInt32.toInt64 else w
section LDW
variable {fu g0 g i b lt h : Nat} {f : Nat → Int32} {n sp r : Int} {C : KCo} {M : KMe} {W1 : KW1} {W3 : KW3} {Wj : KWj} {W5 : KW5} {M1 : KM1} {Mp : KMp} {M3 : KM3} {Mj : KMj} {Ml : KMl} {M5 : KM5} {M6 : KM6} {ct : KCt} {X : SP} {R : List (Nat × Nat × Nat)} {af : KAf} {rr : KRr} {rl : KRl} {st vs : Nat → Int64} {mb : KMb} {ag : KAg} {my : KMy} {rg : KRg} {o : Int} {w : Int64}
set_option maxRecDepth 20000 in
theorem cm_ld {ma : KMa} (hi : i < 2000) (ho : o = 40 ∨ o = 41 ∨ o = 44 ∨ o = 45) (hpos : 0 < h) (hh : h ≤ 12096) (hl : (((st (h - 1) &&& 4294967295) + C.values i) + (iI (wdt o : Int)).toInt64).toInt ≤ (((iI ag.pages).toInt64) * 65536).toInt → L26_Ma_load fu mb ((st (h - 1) &&& 4294967295) + C.values i) fu 0 ((wdt o : Int) - 1) = .ret (w, -1)) : f_Ma_performMemory fu C W5 mb ag ma (KAs.mk st h) o i = if (((st (h - 1) &&& 4294967295) + C.values i) + (iI (wdt o : Int)).toInt64).toInt ≤ (((iI ag.pages).toInt64) * 65536).toInt then obind (f_Ma_push ma (KAs.mk st ((h - 1 : Nat) : Int)) (cvt o w)) (fun x => .ret (mb, ag, x.1, x.2)) else .ret (mb, ag, KMa.mk ma.steps 6 ma.next, KAs.mk st ((h - 1 : Nat) : Int)) := by
  have e : f_Op_width o = .ret (wdt o : Int) ∧ f_Op_isLoad o = .ret true := by rcases ho with q | q | q | q <;> subst q <;> exact ⟨rfl, rfl⟩
  unfold f_Ma_performMemory
  simp only [jp]
  rw [if_neg (show ¬ o = 63 by omega), if_neg (show ¬ o = 64 by omega), e.2, obind_ret, if_pos rfl, cm_pop hpos hh, obind_ret]
  dsimp only
  rw [if_pos (show (0 : Int) ≤ (i : Int) ∧ (i : Int) < 2000 by omega), Int.toNat_natCast]
  unfold f_Ma_load f_Ma_isInside
  rw [e.1, obind_ret]
  by_cases c : (((st (h - 1) &&& 4294967295) + C.values i) + (iI (wdt o : Int)).toInt64).toInt ≤ (((iI ag.pages).toInt64) * 65536).toInt
  · rw [if_pos c, if_pos c, obind_ret]
    dsimp only
    rw [if_pos rfl, if_pos (show R32 ((wdt o : Int) - 1) by rcases ho with q | q | q | q <;> subst q <;> decide), hl c, obind_ret]
    simp only [jp]
    rcases ho with q | q | q | q <;> subst q <;> simp only [Int.reduceEq, reduceIte, cm_push] <;> by_cases ch : h - 1 < 12096 <;> simp only [ch, reduceIte, obind_ret] <;> rfl
  · rw [if_neg c, if_neg c, obind_ret]
    dsimp only
    rw [if_neg Bool.false_ne_true, obind_ret]
set_option maxRecDepth 20000 in
theorem rm_ld {p q1 q : Int} {e : Int} {v : Int64} (hfu : 10 < fu) (hI : Idx f p q1 e) (hC : Cnt f q1 q v) (hq : q ≤ n) (hn : n ≤ 2000) (ho : o = 40 ∨ o = 41 ∨ o = 44 ∨ o = 45) (hpos : 0 < h) (hh : h ≤ 12096) (hl : (((vs (h - 1) &&& 4294967295) + v) + (iI (wdt o : Int)).toInt64).toInt ≤ (65536 * ((iI rg.pages).toInt64)).toInt → L281_Mo_memoryStep fu my (r, KMc.mk q n, v) (KRs.mk vs ((h - 1 : Nat) : Int), vs (h - 1)) fu 0 ((wdt o : Int) - 1) = .ret (w, -1)) : f_Mo_memoryStep fu r (KMc.mk p n) my rg (KRs.mk vs h) (KMt.mk f n) M5 o = if (((vs (h - 1) &&& 4294967295) + v) + (iI (wdt o : Int)).toInt64).toInt ≤ (65536 * ((iI rg.pages).toInt64)).toInt then obind2 (f_Mo_pushValue r (KRs.mk vs ((h - 1 : Nat) : Int)) (cvt o w)) (fun x => .ret (x.1, KMc.mk q n, my, rg, x.2)) (fun x => .thr (x.1, KMc.mk q n, my, rg, x.2)) else .thr (6, KMc.mk q n, my, rg, KRs.mk vs ((h - 1 : Nat) : Int)) := by
  have hq1 := hC.2.1
  have v1 : f_Mo_ends r false 6 = .ret r := rfl
  have v2 : f_Mo_ends r true 6 = .thr 6 := rfl
  unfold f_Mo_memoryStep
  simp only [jp]
  rcases ho with s | s | s | s
  all_goals
    subst s
    simp only [Int.reduceEq, Int.reduceLT, reduceIte]
    rw [hI.2.2 fu r n n (by omega) (by omega) hn, obind2_ret]
    dsimp only
    rw [hC.2.2 fu r n n (by omega) hq hn, obind2_ret]
    dsimp only
    rw [rm_pop hpos hh, obind_ret]
    dsimp only
    rw [v1, v2, obind2_ret, obind2_thr]
  · rw [show ((wdt 40 : Nat) : Int) = 4 from rfl] at hl ⊢
    by_cases c : (((vs (h - 1) &&& 4294967295) + v) + (iI (4 : Int)).toInt64).toInt ≤ (65536 * ((iI rg.pages).toInt64)).toInt
    · rw [if_pos c, if_pos c, if_pos (by decide)]; rw [hl c, obind2_ret] <;> rfl
    · rw [if_neg c, if_neg c]
  · rw [show ((wdt 41 : Nat) : Int) = 8 from rfl] at hl ⊢
    by_cases c : (((vs (h - 1) &&& 4294967295) + v) + (iI (8 : Int)).toInt64).toInt ≤ (65536 * ((iI rg.pages).toInt64)).toInt
    · rw [if_pos c, if_pos c, if_pos (by decide)]; rw [hl c, obind2_ret] <;> rfl
    · rw [if_neg c, if_neg c]
  · rw [show ((wdt 44 : Nat) : Int) = 1 from rfl] at hl ⊢
    by_cases c : (((vs (h - 1) &&& 4294967295) + v) + (iI (1 : Int)).toInt64).toInt ≤ (65536 * ((iI rg.pages).toInt64)).toInt
    · rw [if_pos c, if_pos c, if_pos (by decide)]; rw [hl c, obind2_ret] <;> rfl
    · rw [if_neg c, if_neg c]
  · rw [show ((wdt 45 : Nat) : Int) = 1 from rfl] at hl ⊢
    by_cases c : (((vs (h - 1) &&& 4294967295) + v) + (iI (1 : Int)).toInt64).toInt ≤ (65536 * ((iI rg.pages).toInt64)).toInt
    · rw [if_pos c, if_pos c, if_pos (by decide)]; rw [hl c, obind2_ret] <;> rfl
    · rw [if_neg c, if_neg c]
end LDW
