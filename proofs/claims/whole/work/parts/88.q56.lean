/-! RUN: a call is entered -/
set_option maxRecDepth 20000 in
theorem pops_live {pt : Nat → Int} : ∀ (n : Nat) (x y : Fr), popsA pt n x = some y → lv x → (∀ p, p < n → 0 < pt p) → ∃ l : List Int, x.1 = l ++ y.1 ∧ l.length = n ∧ lv y ∧ y.2 = x.2 ∧ ∀ (st : Nat → Int64) (base : Nat) (rest : List Int), VT st base (l ++ rest) → ∀ p, p < n → pt p = 127 → R32 (st (base + (rest.length + p))).toInt
  | 0, x, y, h, hx, _ => by
    cases h
    exact ⟨[], rfl, rfl, hx, rfl, fun _ _ _ _ p hp _ => absurd hp (Nat.not_lt_zero p)⟩
  | n + 1, x, y, h, hx, hp => by
    obtain ⟨a, e1, e2⟩ := obnd_some h
    obtain ⟨k1, k2, k3, k4, k5⟩ := popA_live e1 hx
    obtain ⟨l, q1, q2, q3, q4, q5⟩ := pops_live n a.2 y e2 k4 (fun p h => hp p (by omega))
    refine ⟨a.1 :: l, by rw [k1, q1]; rfl, by rw [List.length_cons, q2], q3, q4.trans k5, fun st base rest hV p hp1 hp2 => ?_⟩
    have hV' : VT st base (a.1 :: (l ++ rest)) := hV
    by_cases c : p = n
    · have h9 := hV'.1 (by rw [k2 (hp n (by omega)), ← c]; exact hp2)
      rwa [List.length_append, q2, show n + rest.length = rest.length + p by omega] at h9
    · exact q5 st base rest hV'.2 p (by omega) hp2
/-- m zeros at h -/
def zr (st : Nat → Int64) (h m : Nat) : Nat → Int64 := fun k => if h ≤ k ∧ k < h + m then 0 else st k
set_option maxRecDepth 20000 in
theorem zr_lo {st : Nat → Int64} {h m k : Nat} (hk : k < h) : zr st h m k = st k := if_neg (by omega)
set_option maxRecDepth 20000 in
theorem zr_0 {st : Nat → Int64} {h : Nat} : zr st h 0 = st := funext fun k => if_neg (by omega)
set_option maxRecDepth 20000 in
theorem zr_s {st : Nat → Int64} {h m : Nat} : zr (vp_updL st h 0) (h + 1) m = zr st h (m + 1) := funext fun k => by
  unfold zr
  by_cases c : k = h
  · rw [if_neg (by omega), if_pos (by omega), c, updL_s]
  · by_cases c2 : h + 1 ≤ k ∧ k < h + 1 + m
    · rw [if_pos c2, if_pos (by omega)]
    · rw [if_neg c2, if_neg (by omega), updL_n c]
section CAL
variable {fu g0 u lt h : Nat} {f : Nat → Int32} {n sp r : Int} {C : KCo} {M : KMe} {W1 : KW1} {W3 : KW3} {Wj : KWj} {W5 : KW5} {M1 : KM1} {Mp : KMp} {M3 : KM3} {Mj : KMj} {Ml : KMl} {M5 : KM5} {M6 : KM6} {ct : KCt} {X : SP} {L : List (Nat × Nat × Nat)} {af : KAf} {rr : KRr} {rl : KRl} {st vs : Nat → Int64}
set_option maxRecDepth 20000 in
theorem en_c {ma : KMa} {lc : Nat} (hlc : Wj.localCounts u = lc) (hl : lc ≤ 60) : ∀ (j k n1 h : Nat) (st : Nat → Int64), k + j = lc → j < n1 → h + j ≤ 12096 → L95_Ma_enter fu Wj u n1 ma (KAs.mk st h) k = .ret (ma, KAs.mk (zr st h j) ((h + j : Nat) : Int), (lc : Int)) := by
  intro j
  induction j with
  | zero =>
    intro k n1 h st hk hn hh
    obtain ⟨n1, rfl⟩ : ∃ q, n1 = q + 1 := ⟨n1 - 1, by omega⟩
    have : k = lc := by omega
    subst this
    rw [L95_Ma_enter.eq_2, Int.toNat_natCast, if_pos (by omega), zr_0]
    rfl
  | succ j ih =>
    intro k n1 h st hk hn hh
    obtain ⟨n1, rfl⟩ : ∃ q, n1 = q + 1 := ⟨n1 - 1, by omega⟩
    rw [L95_Ma_enter.eq_2, Int.toNat_natCast, if_neg (by omega), cm_push, if_pos (by omega), obind_ret, if_pos (show R32 ((k : Int) + 1) by omega)]
    dsimp only
    rw [show ((k : Int) + 1) = ((k + 1 : Nat) : Int) by omega, ih (k + 1) n1 (h + 1) _ (by omega) (by omega) (by omega), zr_s, show h + 1 + j = h + (j + 1) by omega]
set_option maxRecDepth 20000 in
theorem en_r {mc : KMc} {rs : KRs} {back x5 : Int} {lc : Nat} (hu : u < 30) (hlc : Mj.localCount u = lc) (hl : lc ≤ 60) : ∀ (j k n1 h : Nat) (vs : Nat → Int64), k + j = lc → j < n1 → h ≤ 12096 → (h + j ≤ 12096 → L72_Mo_begin fu mc rs rr rl M1 Mj u back x5 n1 r (KRs.mk vs h) k = .ret (r, KRs.mk (zr vs h j) ((h + j : Nat) : Int), (lc : Int))) ∧ (¬ h + j ≤ 12096 → ∃ t, L72_Mo_begin fu mc rs rr rl M1 Mj u back x5 n1 r (KRs.mk vs h) k = .thr t ∧ t.1 = 7) := by
  intro j
  induction j with
  | zero =>
    intro k n1 h vs hk hn hh
    obtain ⟨n1, rfl⟩ : ∃ q, n1 = q + 1 := ⟨n1 - 1, by omega⟩
    have : k = lc := by omega
    subst this
    refine ⟨fun _ => ?_, fun q => absurd hh q⟩
    rw [L72_Mo_begin.eq_2, if_pos (by omega), Int.toNat_natCast, if_pos (by omega), zr_0]
    rfl
  | succ j ih =>
    intro k n1 h vs hk hn hh
    obtain ⟨n1, rfl⟩ : ∃ q, n1 = q + 1 := ⟨n1 - 1, by omega⟩
    rw [L72_Mo_begin.eq_2, if_pos (by omega), Int.toNat_natCast, if_neg (by omega), rm_push hh]
    by_cases c : h < 12096
    · rw [if_pos c, obind2_ret, if_pos (show R32 ((k : Int) + 1) by omega)]
      dsimp only
      rw [show ((k : Int) + 1) = ((k + 1 : Nat) : Int) by omega]
      obtain ⟨i1, i2⟩ := ih (k + 1) n1 (h + 1) (vp_updL vs h 0) (by omega) (by omega) (by omega)
      refine ⟨fun q => ?_, fun q => i2 (by omega)⟩
      rw [i1 (by omega), zr_s, show h + 1 + j = h + (j + 1) by omega]
    · rw [if_neg c, obind2_thr]
      exact ⟨fun q => absurd q (by omega), fun _ => ⟨_, rfl, rfl⟩⟩
set_option maxRecDepth 20000 in
/-- both enter a function -/
theorem en_both {nx c2 c : Int} {hb : Nat} (hfu : 100 < fu) (hX : CX f n C M W1 W3 Wj W5 M1 Mp M3 Mj Ml M5 M6 ct X) (hu : (u : Int) < M3.functions) (hF : FI X M1 Mp M3 Mj Ml af rr rl st L (res M1 M3 u) lt hb) (hh : (h : Int) = hb + pcn M1 M3 u) (h12 : h ≤ 12096) (hret : ∀ c R', L = c :: R' → nx = c.2.1 ∧ c2 = X.p c.1 c.2.1) (hty : ∀ p : Nat, (p : Int) < pcn M1 M3 u → ptp Mp M3 u p = 127 → R32 (st (hb + p)).toInt) (hd : af.depth = L.length) (hr : rr.frames = L.length) (hL : L.length ≤ 100) (hlt : rl.labelTop = lt) (ha : ∀ k, k < h → vs k = st k) (hg0 : ((u, X.s u, hb) :: L).getLast?.map Prod.fst = some g0) : (∃ (ma' : KMa) (as' : KAs) (af' : KAf) (mc' : KMc) (rs' : KRs) (rr' : KRr) (rl' : KRl), f_Ma_enter fu W1 W3 Wj (KMa.mk sp 0 nx) (KAs.mk st h) af u = .ret (ma', as', af') ∧ f_Mo_begin fu r (KMc.mk c n) (KRs.mk vs h) rr rl M1 M3 Mj u c2 = .ret (r, mc', rs', rr', rl') ∧ ma'.steps = sp ∧ RI X M1 Mp M3 Mj Ml n g0 ma' as' af' mc' rs' rr' rl' (lt + 1)) ∨ (∃ (t : KRf × KMc × KRs × KRr × KRl), f_Ma_enter fu W1 W3 Wj (KMa.mk sp 0 nx) (KAs.mk st h) af u = .ret (KMa.mk sp 7 nx, KAs.mk st h, af) ∧ f_Mo_begin fu r (KMc.mk c n) (KRs.mk vs h) rr rl M1 M3 Mj u c2 = .thr t ∧ t.1 = 7) := by
  have hM := hX.1
  have hG := hX.2.2.2.2.2.2.1 u hu
  obtain ⟨T1, t1, t2, t3, t4, t5, t6⟩ := hM.ty hu
  have hpc := hM.pc hu
  have hLo := hG.2.2.2.2.2.2.2.2.2.2.2.2.2.1
  obtain ⟨lc, hlc⟩ := Int.eq_ofNat_of_zero_le hLo.2.1
  have hlc2 : lc ≤ 60 := by have := hLo.2.2.1; omega
  have hlw : Wj.localCounts u = lc := hLo.1.trans hlc
  have hle := hF.le hX.k100
  have ebase : (h : Int) - pcn M1 M3 u = (hb : Int) := by omega
  have hnv : hb + nv M1 M3 Mj u = h + lc := by show hb + (pcn M1 M3 u + Mj.localCount u).toNat = h + lc; omega
  by_cases c100 : L.length = 100
  · right
    refine ⟨(7, KMc.mk c n, KRs.mk vs h, rr, rl), ?_, ?_, rfl⟩
    · unfold f_Ma_enter
      simp only [jp]
      rw [if_pos (by omega), if_pos (by omega)]
    · unfold f_Mo_begin
      simp only [jp]
      rw [if_pos (by omega)]
      rfl
  have hhe : (KAs.mk st (h : Int)).height = (h : Int) := rfl
  have e95 : h + lc ≤ 12096 → L95_Ma_enter fu Wj u fu (KMa.mk sp 0 nx) (KAs.mk st h) 0 = .ret (KMa.mk sp 0 nx, KAs.mk (zr st h lc) ((h + lc : Nat) : Int), (lc : Int)) := fun q => en_c (fu := fu) (ma := KMa.mk sp 0 nx) hlw hlc2 lc 0 fu h st (by omega) (by omega) q
  have e72 := fun (rs : KRs) (x5 : Int) => en_r (fu := fu) (r := r) (mc := KMc.mk c n) (rs := rs) (rr := rr) (rl := rl) (M1 := M1) (back := c2) (x5 := x5) t2 hlc hlc2 lc 0 fu h vs (by omega) (by omega) h12
  have eR : f_Mo_begin fu r (KMc.mk c n) (KRs.mk vs h) rr rl M1 M3 Mj u c2 = obind2 (L72_Mo_begin fu (KMc.mk c n) (KRs.mk vs h) rr rl M1 Mj u c2 (tyOf M3 u) fu r (KRs.mk vs h) 0) (fun y_16 => .ret (y_16.1, KMc.mk (Mj.codeAt u) n, y_16.2.1, KRr.mk (updZ rr.frameFunction L.length u) (updZ rr.frameReturn L.length c2) (updZ rr.frameBase L.length hb) (updZ rr.frameLabels L.length lt) ((L.length : Int) + 1), KRl.mk (updZ rl.labelAt lt (-1)) (updZ rl.labelHeight lt y_16.2.1.valueTop) ((lt : Int) + 1))) (fun t9 => .thr t9) := by
    unfold f_Mo_begin
    simp only [jp]
    rw [if_neg (show ¬ rr.frames = 100 by omega), show f_Mo_ends r false 7 = .ret r from rfl, obind2_ret, mo_ty hM hu, obind_ret, hr, hlt, Int.toNat_natCast, Int.toNat_natCast, Int.toNat_natCast, ebase]
    simp only [if_pos (show (0 : Int) ≤ (tyOf M3 u : Int) ∧ (tyOf M3 u : Int) < 20 by omega), if_pos (show (0 : Int) ≤ (L.length : Int) ∧ (L.length : Int) < 100 by omega), if_pos (show (0 : Int) ≤ (L.length : Int) ∧ (L.length : Int) < 101 by omega), if_pos (show R32 (hb : Int) by omega), if_pos (show R32 ((L.length : Int) + 1) by omega), if_pos (show (0 : Int) ≤ (lt : Int) ∧ (lt : Int) < 24000 by omega), if_pos (show R32 ((lt : Int) + 1) by omega), if_pos (show (0 : Int) ≤ (u : Int) ∧ (u : Int) < 30 by omega), Int.toNat_natCast]
  by_cases cs : h + lc ≤ 12096
  · left
    have eC : f_Ma_enter fu W1 W3 Wj (KMa.mk sp 0 nx) (KAs.mk st h) af u = .ret (KMa.mk sp 0 (Wj.starts u), KAs.mk (zr st h lc) ((h + lc : Nat) : Int), KAf.mk (updZ af.functions L.length u) (updZ af.bases L.length hb) (updZ af.returns L.length nx) ((L.length : Int) + 1) hb ((h + lc : Nat) : Int)) := by
      unfold f_Ma_enter
      simp only [jp]
      rw [hd]
      simp only [hhe, Int.toNat_natCast, hlw, if_pos (show (0 : Int) ≤ (u : Int) ∧ (u : Int) < 30 by omega), if_neg (show ¬ (100 : Int) ≤ (L.length : Int) by omega), if_pos (show R32 ((h : Int) + lc) by omega), if_pos (show (h : Int) + lc ≤ 12096 by omega), if_pos (show (0 : Int) ≤ (L.length : Int) ∧ (L.length : Int) < 100 by omega), if_pos (show R32 ((L.length : Int) + 1) by omega), wa_pc hM hu, obind_ret, ebase, if_pos (show R32 (hb : Int) by omega), e95 cs, show (L.length : Int) + 1 - 1 = (L.length : Int) by omega, if_pos (show R32 (L.length : Int) by omega), updZ_s]
    have f1 : L72_Mo_begin fu (KMc.mk c n) (KRs.mk vs h) rr rl M1 Mj u c2 (tyOf M3 u) fu r (KRs.mk vs h) 0 = .ret (r, KRs.mk (zr vs h lc) ((h + lc : Nat) : Int), (lc : Int)) := (e72 (KRs.mk vs h) (tyOf M3 u)).1 cs
    rw [f1, obind2_ret] at eR
    have hV := hG.2.2.2.2.2.2.2.2.2.2.2.2.2.2
    have hK0 : X.k u (X.s u) = [] := hG.2.2.2.2.2.2.2.2.1.1
    refine ⟨_, _, _, _, _, _, _, eC, eR, rfl, u, X.s u, hb, L, h + lc, ⟨⟨hu, Nat.le_refl _, hG.2.1, updZ_s _ _ _, updZ_s _ _ _, updZ_s _ _ _, updZ_s _ _ _, fun c R' q => ?_, fun k hk => ?_, ⟨([], false, res M1 M3 u, res M1 M3 u), [], hV.1, fun y hy => ?_, ?_, trivial⟩, lt, updZ_s _ _ _, updZ_s _ _ _, ?_, ?_, ?_⟩, ?_, rfl, ?_, ?_, ?_, by omega, cs, fun k hk => ?_, hg0⟩, rfl, hG.1, rfl, ?_, rfl⟩
    · obtain ⟨r1, r2⟩ := hret c R' q
      exact ⟨(updZ_s _ _ _).trans r1, (updZ_s _ _ _).trans r2⟩
    · show R32 (zr st h lc (hb + k)).toInt
      have hkl := locA_lt hk
      have hkl2 : hb + k < h + lc := by
        have hkl' : k < nv M1 M3 Mj u := hkl
        omega
      by_cases ck : (k : Int) < pcn M1 M3 u
      · rw [zr_lo (by omega)]
        unfold locA at hk
        have h9 := Option.some.inj (ite_some hk).2
        rw [if_pos ck, Int.toNat_natCast] at h9
        exact hty k ck h9
      · rw [show zr st h lc (hb + k) = 0 from if_pos (by omega)]
        decide
    · rw [List.mem_singleton.mp hy]; exact ⟨rfl, fun t ht => absurd ht List.not_mem_nil⟩
    · show h + lc = hb + nv M1 M3 Mj u + 0
      omega
    · show lt + 1 = lt + 1 + (X.k u (X.s u)).length
      rw [hK0]; rfl
    · show LB X u _ _ (lt + 1) (X.k u (X.s u))
      rw [hK0]; intro k o hko; cases hko
    · exact FI.cg hF (fun k hk => ⟨updZ_n (by omega), updZ_n (by omega), updZ_n (by omega), updZ_n (by omega), updZ_n (by omega), updZ_n (by omega), updZ_n (by omega)⟩) (fun k hk => ⟨updZ_n (by omega), updZ_n (by omega)⟩) (fun k hk => zr_lo (by have hk' : k < hb := hk; omega))
    · show (L.length : Int) + 1 = ((L.length + 1 : Nat) : Int)
      omega
    · show ((h + lc : Nat) : Int) = ((hb + nv M1 M3 Mj u : Nat) : Int)
      omega
    · show (L.length : Int) + 1 = ((L.length + 1 : Nat) : Int)
      omega
    · show (lt : Int) + 1 = ((lt + 1 : Nat) : Int)
      omega
    · show zr vs h lc k = zr st h lc k
      by_cases ck : h ≤ k
      · rw [show zr vs h lc k = 0 from if_pos (by omega), show zr st h lc k = 0 from if_pos (by omega)]
      · rw [zr_lo (by omega), zr_lo (by omega)]; exact ha k (by omega)
    · show KMc.mk (Mj.codeAt u) n = KMc.mk (X.p u (X.s u)) n
      rw [hG.2.2.2.2.1]
  · right
    obtain ⟨t, f1, f2⟩ := (e72 (KRs.mk vs h) (tyOf M3 u)).2 cs
    have f1' : L72_Mo_begin fu (KMc.mk c n) (KRs.mk vs h) rr rl M1 Mj u c2 (tyOf M3 u) fu r (KRs.mk vs h) 0 = .thr t := f1
    rw [f1', obind2_thr] at eR
    refine ⟨t, ?_, eR, f2⟩
    unfold f_Ma_enter
    simp only [jp]
    rw [if_pos (by omega), hd, if_neg (by omega), Int.toNat_natCast, hlw, hhe, if_pos (by omega), if_neg (by omega)]
set_option maxRecDepth 20000 in
theorem s_16 {g i b : Nat} {R : List (Nat × Nat × Nat)} {mb : KMb} {ag : KAg} {my : KMy} {rg : KRg} (hfu : 100 < fu) (hX : CX f n C M W1 W3 Wj W5 M1 Mp M3 Mj Ml M5 M6 ct X) (hS : StI X M1 Mp M3 Mj Ml g0 g i b R lt h af rr rl st vs) (hm : MR M6 mb ag my rg) (hi : i < X.e g) (h0 : 0 ≤ sp) (h1 : sp + 1 ≤ 100000) (ho : C.ops i = 16) : SR X M1 Mp M3 Mj Ml M6 n g0 (sp + 1) lt r (f_Ma_takeStep fu C ct W1 W3 Wj W5 mb ag (KMa.mk sp 0 ((i + 1 : Nat) : Int)) (KAs.mk st h) af (C.ops i) i) (f_Mo_step fu r (KMc.mk (X.p g i + 1) n) my rg (KRs.mk vs h) rr rl (KMt.mk f n) M1 M3 Mj M5 M (C.ops i) (X.p g i)) := by
  obtain ⟨x, y, R0, e1, e2, e3, e4, e5, e6, e7⟩ := hS.op hX hi (by omega)
  obtain ⟨d1, d2, d3, d4, d5, d6, d7⟩ := hS.dec hX hi
  obtain ⟨⟨j1, j2, j3⟩, j4, j5⟩ := d7.2.1 (by omega)
  obtain ⟨u, hu⟩ := Int.eq_ofNat_of_zero_le j4
  have hn := hX.2.2.2.2.1
  rw [ho] at e3; unfold opF at e3
  simp only [Int.reduceEq, reduceIte] at e3
  rw [hu, Int.toNat_natCast] at e3
  obtain ⟨q1, e3⟩ := ite_some e3
  obtain ⟨z, q2, q3⟩ := omap_some e3
  have hM := hX.1
  have hpc := hM.pc q1
  obtain ⟨l, p1, p2, p3, p4, p5⟩ := pops_live _ _ _ q2 e4 (fun p hp => by have := (hM.pt q1 (p := p) (by omega)).2; omega)
  obtain ⟨s1, s2, s3, s4, s5, s6, s7, s8, s9, s10⟩ := hS
  obtain ⟨a1, a2, a3, a4, a5, a6, a7, a8, a9, ⟨x9, R9, b1, b2, b3, b4⟩, lb, c1, c2, c3, c4, c5⟩ := s1
  dsimp only at *
  have hxx : x9 :: R9 = x :: R0 := by rw [← e1]; exact b1.symm
  rw [hxx] at b2 b3 b4
  have hfl : flat (x :: R0) = l ++ flat (z :: R0) := by show x.1 ++ flat R0 = l ++ (z.1 ++ flat R0); rw [p1, List.append_assoc]
  have hto : tot (x :: R0) = l.length + tot (z :: R0) := by show (flat (x :: R0)).length = _; rw [hfl, List.length_append]; rfl
  have hFI : FI X M1 Mp M3 Mj Ml af rr rl st ((g, i + 1, b) :: R) (res M1 M3 u) lt (b + nv M1 M3 Mj g + tot (z :: R0)) := by
    refine ⟨a1, e6, hi, a4, a5, a6, a7, a8, a9, ⟨z, R0, by show X.F g (i + 1) = _; rw [e2, q3], Live.cons.mpr ⟨p3, (Live.cons.mp b2).2⟩, rfl, ?_⟩, lb, c1, c2, by show lt = lb + 1 + (X.k g (i + 1)).length; rw [e5]; exact c3, by show LB X g _ rl lt (X.k g (i + 1)); rw [e5]; exact c4, c5⟩
    rw [hfl] at b4
    exact VT.app l _ b4
  have hv := v32 j4 j5
  rcases en_both (r := r) (sp := sp + 1) (u := u) (nx := ((i + 1 : Nat) : Int)) (c2 := X.p g (i + 1)) (c := X.p g (i + 1)) (g0 := g0) (vs := vs) (h := h) hfu hX q1 hFI (by omega) s8 (fun c R' q => by cases q; exact ⟨rfl, rfl⟩) (fun p hp1 hp2 => by
      have := p5 st (b + nv M1 M3 Mj g) (flat (z :: R0)) (by rw [← hfl]; exact b4) p (by omega) hp2
      rwa [show b + nv M1 M3 Mj g + ((flat (z :: R0)).length + p) = b + nv M1 M3 Mj g + tot (z :: R0) + p from (Nat.add_assoc _ _ _).symm] at this) s2 s5 (by rw [List.length_cons]; omega) s6 s9 (by cases R with
        | nil => exact s10
        | cons a R' => exact s10) with ⟨ma', as', af', mc', rs', rr', rl', f1, f2, f3, f4⟩ | ⟨t, f1, f2, f3⟩
  · refine Or.inl ⟨mb, ag, ma', as', af', mc', my, rg, rs', rr', rl', lt + 1, ?_, ?_, f3, hm, f4, Nat.le_refl _⟩
    · rw [ho, tk_ctl h0 h1 (by decide)]
      unfold f_Ma_performControl
      simp only [jp, Int.reduceEq, reduceIte]
      rw [if_pos (by omega), Int.toNat_natCast, hv, hu, f1, obind_ret, obind_ret]
    · rw [ho]
      unfold f_Mo_step
      simp only [jp, Int.reduceEq, reduceIte]
      rw [j3 fu r n n (by omega) d4 hn, obind2_ret, hu]
      dsimp only
      rw [f2, obind2_ret]
  · refine sr_no (af := af) (c := 7) (nx := ((i + 1 : Nat) : Int)) (as := KAs.mk st h) (mc := t.2.1) (rs := t.2.2.1) (rr' := t.2.2.2.1) (rl' := t.2.2.2.2) (by decide) hm ?_ ?_
    · rw [ho, tk_ctl h0 h1 (by decide)]
      unfold f_Ma_performControl
      simp only [jp, Int.reduceEq, reduceIte]
      rw [if_pos (by omega), Int.toNat_natCast, hv, hu, f1, obind_ret, obind_ret]
    · rw [ho]
      unfold f_Mo_step
      simp only [jp, Int.reduceEq, reduceIte]
      rw [j3 fu r n n (by omega) d4 hn, obind2_ret, hu]
      dsimp only
      rw [f2, obind2_thr, f3]
end CAL
