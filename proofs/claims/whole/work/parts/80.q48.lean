/-! RUN: one step of both machines -/
/-- the two memories and globals -/
def MR (M6 : KM6) (mb : KMb) (ag : KAg) (my : KMy) (rg : KRg) : Prop := (∀ k, k < 131072 → mb.bytes k = my.memory k ∧ -128 ≤ (my.memory k).toInt ∧ (my.memory k).toInt ≤ 127) ∧ ag.pages = rg.pages ∧ 0 ≤ rg.pages ∧ rg.pages ≤ 2 ∧ (∀ k, k < 20 → ag.globals k = rg.globals k) ∧ (∀ k : Nat, (k : Int) < M6.globals → M6.globalTypes k = 127 → R32 (rg.globals k).toInt) ∧ (ag.written = false → ∀ k, k < 131072 → mb.bytes k = 0)
/-- the two machines between two instructions -/
def StI (X : SP) (M1 : KM1) (Mp : KMp) (M3 : KM3) (Mj : KMj) (Ml : KMl) (g0 g i b : Nat) (R : List (Nat × Nat × Nat)) (lt h : Nat) (af : KAf) (rr : KRr) (rl : KRl) (st vs : Nat → Int64) : Prop := FI X M1 Mp M3 Mj Ml af rr rl st ((g, i, b) :: R) 0 lt h ∧ af.depth = ((R.length + 1 : Nat) : Int) ∧ af.variables = b ∧ af.values = ((b + nv M1 M3 Mj g : Nat) : Int) ∧ rr.frames = ((R.length + 1 : Nat) : Int) ∧ rl.labelTop = lt ∧ R.length < 100 ∧ h ≤ 12096 ∧ (∀ k, k < h → vs k = st k) ∧ ((g, i, b) :: R).getLast?.map Prod.fst = some g0
/-- both go on -/
def RI (X : SP) (M1 : KM1) (Mp : KMp) (M3 : KM3) (Mj : KMj) (Ml : KMl) (n : Int) (g0 : Nat) (ma : KMa) (as : KAs) (af : KAf) (mc : KMc) (rs : KRs) (rr : KRr) (rl : KRl) (lt : Nat) : Prop := ∃ (g i b : Nat) (R : List (Nat × Nat × Nat)) (h : Nat), StI X M1 Mp M3 Mj Ml g0 g i b R lt h af rr rl as.stack rs.values ∧ ma.reason = 0 ∧ ma.next = i ∧ as.height = h ∧ mc = KMc.mk (X.p g i) n ∧ rs.valueTop = h
/-- what a step of both gives: both go on, both are at the end, both stop for the same reason -/
def SR (X : SP) (M1 : KM1) (Mp : KMp) (M3 : KM3) (Mj : KMj) (Ml : KMl) (M6 : KM6) (n : Int) (g0 : Nat) (sp : Int) (lt : Nat) (r : KRf) (Fc : Out Empty (KMb × KAg × KMa × KAs × KAf)) (Fr : Out (KRf × KMc × KMy × KRg × KRs × KRr × KRl) (KRf × KMc × KMy × KRg × KRs × KRr × KRl × Bool)) : Prop :=
  (∃ (mb : KMb) (ag : KAg) (ma : KMa) (as : KAs) (af : KAf) (mc : KMc) (my : KMy) (rg : KRg) (rs : KRs) (rr : KRr) (rl : KRl) (lt' : Nat), Fc = .ret (mb, ag, ma, as, af) ∧ Fr = .ret (r, mc, my, rg, rs, rr, rl, true) ∧ ma.steps = sp ∧ MR M6 mb ag my rg ∧ RI X M1 Mp M3 Mj Ml n g0 ma as af mc rs rr rl lt' ∧ lt' ≤ lt + 1) ∨
  (∃ (mb : KMb) (ag : KAg) (ma : KMa) (as : KAs) (af : KAf) (mc : KMc) (my : KMy) (rg : KRg) (rs : KRs) (rr : KRr) (rl : KRl), Fc = .ret (mb, ag, ma, as, af) ∧ Fr = .ret (r, mc, my, rg, rs, rr, rl, false) ∧ ma.steps = sp ∧ MR M6 mb ag my rg ∧ ma.reason = 0 ∧ af.depth = 0 ∧ (res M1 M3 g0 ≠ 0 → as.stack 0 = rs.values 0)) ∨
  (∃ (mb : KMb) (ag : KAg) (ma : KMa) (as : KAs) (af : KAf) (t : KRf × KMc × KMy × KRg × KRs × KRr × KRl), Fc = .ret (mb, ag, ma, as, af) ∧ Fr = .thr t ∧ ma.steps = sp ∧ ma.reason = t.1 ∧ t.1 ≠ 0 ∧ MR M6 mb ag t.2.2.1 t.2.2.2.1)
/-- what stays the same in a run -/
def CX (f : Nat → Int32) (n : Int) (C : KCo) (M : KMe) (W1 : KW1) (W3 : KW3) (Wj : KWj) (W5 : KW5) (M1 : KM1) (Mp : KMp) (M3 : KM3) (Mj : KMj) (Ml : KMl) (M5 : KM5) (M6 : KM6) (ct : KCt) (X : SP) : Prop := MOk W1 W3 M1 Mp M3 ∧ R5 W5 M5 ∧ memG W5 = true ∧ (0 ≤ M6.globals ∧ M6.globals ≤ 20 ∧ ∀ k : Nat, (k : Int) < M6.globals → M6.globalTypes k = 127 ∨ M6.globalTypes k = 126) ∧ n ≤ 2000 ∧ C.labelCount ≤ 2000 ∧ (∀ g : Nat, (g : Int) < M3.functions → GF f n C M M1 Mp M3 Wj Mj Ml M5 M6 ct X g) ∧ BB f
section PSH
variable {ma : KMa} {st vs : Nat → Int64} {h : Nat} {v : Int64} {r : KRf}
set_option maxRecDepth 20000 in
theorem cm_push : f_Ma_push ma (KAs.mk st h) v = if h < 12096 then .ret (ma, KAs.mk (vp_updL st h v) ((h + 1 : Nat) : Int)) else .ret (KMa.mk ma.steps 7 ma.next, KAs.mk st h) := by
  unfold f_Ma_push
  by_cases c : h < 12096
  · rw [if_pos (show ((KAs.mk st h).height : Int) < 12096 by show (h : Int) < 12096; omega), if_pos (show (0 : Int) ≤ (KAs.mk st h).height ∧ (KAs.mk st h).height < 12096 by show (0 : Int) ≤ h ∧ (h : Int) < 12096; omega), if_pos (show R32 ((KAs.mk st h).height + 1) by show R32 ((h : Int) + 1); omega), if_pos c]
    rfl
  · rw [if_neg (show ¬ ((KAs.mk st h).height : Int) < 12096 by show ¬ (h : Int) < 12096; omega), if_neg c]
set_option maxRecDepth 20000 in
theorem cm_pop (h0 : 0 < h) (h1 : h ≤ 12096) : f_Ma_pop (KAs.mk st h) = .ret (KAs.mk st ((h - 1 : Nat) : Int), st (h - 1)) := by
  unfold f_Ma_pop
  have e : (KAs.mk st (h : Int)).height - 1 = ((h - 1 : Nat) : Int) := by show (h : Int) - 1 = _; omega
  rw [e, if_pos (by omega), if_pos (by omega), Int.toNat_natCast]
set_option maxRecDepth 20000 in
theorem rm_push (h1 : h ≤ 12096) : f_Mo_pushValue r (KRs.mk vs h) v = if h < 12096 then .ret (r, KRs.mk (vp_updL vs h v) ((h + 1 : Nat) : Int)) else .thr (7, KRs.mk vs h) := by
  unfold f_Mo_pushValue
  simp only [jp_ite]
  by_cases c : h < 12096
  · rw [if_neg (show ¬ (KRs.mk vs (h : Int)).valueTop = 12096 by show ¬ (h : Int) = 12096; omega), if_pos c]
    show obind2 (f_Mo_ends r false 7) _ _ = _
    rw [show f_Mo_ends r false 7 = .ret r from rfl, obind2_ret, if_pos (show (0 : Int) ≤ (KRs.mk vs h).valueTop ∧ (KRs.mk vs h).valueTop < 12097 by show (0 : Int) ≤ h ∧ (h : Int) < 12097; omega), if_pos (show R32 ((KRs.mk vs h).valueTop + 1) by show R32 ((h : Int) + 1); omega)]
    rfl
  · rw [if_pos (show (KRs.mk vs (h : Int)).valueTop = 12096 by show (h : Int) = 12096; omega), if_neg c]
    rfl
set_option maxRecDepth 20000 in
theorem rm_pop (h0 : 0 < h) (h1 : h ≤ 12096) : f_Mo_popValue (KRs.mk vs h) = .ret (KRs.mk vs ((h - 1 : Nat) : Int), vs (h - 1)) := by
  unfold f_Mo_popValue
  have e : (KRs.mk vs (h : Int)).valueTop - 1 = ((h - 1 : Nat) : Int) := by show (h : Int) - 1 = _; omega
  rw [e, if_pos (by omega), if_pos (by omega), Int.toNat_natCast]
end PSH
set_option maxRecDepth 20000 in
theorem stV_opk {M1 : KM1} {Mp : KMp} {M3 : KM3} {Mj : KMj} {Ml : KMl} {M5 : KM5} {M6 : KM6} {g : Nat} {lab : Nat → Int} {o : Int} {v : Int64} {e : Int} {R : SS} {x : Fr} {k4 : Prop} [Decidable k4] (ho : opk o) : stV M1 Mp M3 Mj Ml M5 M6 g lab k4 o v e (x :: R) = (opF M1 Mp M3 Mj Ml M5 M6 g o v e x).map (fun y => y :: R) := by
  unfold stV
  dsimp only
  rw [if_neg (by omega), if_neg (by omega), if_neg (by omega), if_neg (by omega), if_neg (by omega), if_neg (by omega), if_neg (by omega), if_neg (by omega), if_neg (by omega), if_neg (by omega)]
section STP
variable {fu g0 g i b lt h : Nat} {f : Nat → Int32} {n sp r : Int} {C : KCo} {M : KMe} {W1 : KW1} {W3 : KW3} {Wj : KWj} {W5 : KW5} {M1 : KM1} {Mp : KMp} {M3 : KM3} {Mj : KMj} {Ml : KMl} {M5 : KM5} {M6 : KM6} {ct : KCt} {X : SP} {R : List (Nat × Nat × Nat)} {af : KAf} {rr : KRr} {rl : KRl} {st vs : Nat → Int64} {mb : KMb} {ag : KAg} {my : KMy} {rg : KRg}
set_option maxRecDepth 20000 in
theorem StI.gf (hX : CX f n C M W1 W3 Wj W5 M1 Mp M3 Mj Ml M5 M6 ct X) (hS : StI X M1 Mp M3 Mj Ml g0 g i b R lt h af rr rl st vs) : GF f n C M M1 Mp M3 Wj Mj Ml M5 M6 ct X g := hX.2.2.2.2.2.2.1 g hS.1.1
set_option maxRecDepth 20000 in
/-- the types before and behind an instruction that looks at the innermost block alone -/
theorem StI.op (hX : CX f n C M W1 W3 Wj W5 M1 Mp M3 Mj Ml M5 M6 ct X) (hS : StI X M1 Mp M3 Mj Ml g0 g i b R lt h af rr rl st vs) (hi : i < X.e g) (ho : opk (C.ops i)) : ∃ x y R0, X.F g i = x :: R0 ∧ X.F g (i + 1) = y :: R0 ∧ opF M1 Mp M3 Mj Ml M5 M6 g (C.ops i) (C.values i) (C.extras i) x = some y ∧ lv x ∧ X.k g (i + 1) = X.k g i ∧ X.s g ≤ i + 1 ∧ h = b + nv M1 M3 Mj g + tot (x :: R0) := by
  obtain ⟨x, R0, e1, e2, e3, e4⟩ := hS.1.vals
  have hG := hS.gf hX
  have hs : X.s g ≤ i := hS.1.2.1
  have h1 := hG.2.2.2.2.2.2.2.2.2.2.2.2.2.2.2.1 i hs hi
  rw [e1] at h1
  have h2 : (opF M1 Mp M3 Mj Ml M5 M6 g (C.ops i) (C.values i) (C.extras i) x).map (fun y => y :: R0) = some (X.F g (i + 1)) := by rw [← stV_opk (k4 := k4p C (X.k g i)) ho]; exact h1
  obtain ⟨y, h3, h4⟩ := omap_some h2
  have hk := (hG.2.2.2.2.2.2.2.2.1.2.1 i hs hi).2.2.2.1 (by omega) (by omega) (by omega)
  rw [e1] at e2 e3
  exact ⟨x, y, R0, e1, h4.symm, h3, (Live.cons.mp e2).1, hk, by omega, e3⟩
set_option maxRecDepth 20000 in
/-- go on with other values of the innermost call -/
theorem sr_go {st' vs' : Nat → Int64} {h' i' : Nat} {Fc : Out Empty (KMb × KAg × KMa × KAs × KAf)} {Gr : Out (KRf × KMc × KMy × KRg × KRs × KRr × KRl) (KRf × KMc × KMy × KRg × KRs × KRr × KRl × Bool)} (hS : StI X M1 Mp M3 Mj Ml g0 g i b R lt h af rr rl st vs) (hF : FI X M1 Mp M3 Mj Ml af rr rl st' ((g, i', b) :: R) 0 lt h') (hh : h' ≤ 12096) (ha : ∀ k, k < h' → vs' k = st' k) (hm : MR M6 mb ag my rg) (e1 : Fc = .ret (mb, ag, KMa.mk sp 0 i', KAs.mk st' h', af)) (e2 : Gr = .ret (r, KMc.mk (X.p g i') n, my, rg, KRs.mk vs' h', rr, rl, true)) : SR X M1 Mp M3 Mj Ml M6 n g0 sp lt r Fc Gr := by
  obtain ⟨s1, s2, s3, s4, s5, s6, s7, s8, s9, s10⟩ := hS
  refine Or.inl ⟨_, _, _, _, _, _, _, _, _, _, _, lt, e1, e2, rfl, hm, ⟨g, i', b, R, h', ⟨hF, s2, s3, s4, s5, s6, s7, hh, ha, ?_⟩, rfl, rfl, rfl, rfl, rfl⟩, by omega⟩
  cases R with
  | nil => exact s10
  | cons a R' => exact s10
set_option maxRecDepth 20000 in
/-- both stop -/
theorem sr_no {c : Int} {as : KAs} {nx : Int} {rs : KRs} {rr' : KRr} {rl' : KRl} {mc : KMc} {Fc : Out Empty (KMb × KAg × KMa × KAs × KAf)} {Gr : Out (KRf × KMc × KMy × KRg × KRs × KRr × KRl) (KRf × KMc × KMy × KRg × KRs × KRr × KRl × Bool)} (hc : c ≠ 0) (hm : MR M6 mb ag my rg) (e1 : Fc = .ret (mb, ag, KMa.mk sp c nx, as, af)) (e2 : Gr = .thr (c, mc, my, rg, rs, rr', rl')) : SR X M1 Mp M3 Mj Ml M6 n g0 sp lt r Fc Gr :=
  Or.inr (Or.inr ⟨_, _, _, _, _, _, e1, e2, rfl, rfl, hc, hm⟩)
set_option maxRecDepth 20000 in
/-- one value more -/
theorem sr_push {v v' : Int64} {t : Int} {Fc : Out Empty (KMb × KAg × KMa × KAs × KAf)} {Gr : Out (KRf × KMc × KMy × KRg × KRs × KRr × KRl) (KRf × KMc × KMy × KRg × KRs × KRr × KRl × Bool)} {x y : Fr} {R0 : SS} {l l' : List Int} {h' : Nat} {q : Int} (hS : StI X M1 Mp M3 Mj Ml g0 g i b R lt h af rr rl st vs) (e : X.F g i = x :: R0) (hi : i < X.e g) (hk : X.k g (i + 1) = X.k g i) (e' : X.F g (i + 1) = y :: R0) (hy : lv y) (hl : x.1 = l ++ l') (hr : y.1 = t :: l') (hh : h' = h - l.length) (hv : t = 127 → R32 v.toInt) (hvv : v' = v) (hq : q = X.p g (i + 1)) (hm : MR M6 mb ag my rg) (e1 : Fc = obind (f_Ma_push (KMa.mk sp 0 ((i + 1 : Nat) : Int)) (KAs.mk st h') v) (fun x => .ret (mb, ag, x.1, x.2, af))) (e2 : Gr = obind2 (f_Mo_pushValue r (KRs.mk vs h') v') (fun x => .ret (x.1, KMc.mk q n, my, rg, x.2, rr, rl, true)) (fun x => .thr (x.1, KMc.mk q n, my, rg, x.2, rr, rl))) : SR X M1 Mp M3 Mj Ml M6 n g0 sp lt r Fc Gr := by
  subst hvv hq hh
  have hs : X.s g ≤ i := hS.1.2.1
  have hh := hS.2.2.2.2.2.2.2.1
  have ha := hS.2.2.2.2.2.2.2.2.1
  rw [cm_push] at e1
  rw [rm_push (by omega)] at e2
  by_cases c : h - l.length < 12096
  · rw [if_pos c, obind_ret] at e1
    rw [if_pos c, obind2_ret] at e2
    refine sr_go hS (hS.1.pp (v := v') e (by omega) (by omega) hk e' hy hl hr hv) (by omega) (fun k hk => ?_) hm e1 e2
    by_cases ck : k = h - l.length
    · rw [ck, updL_s, updL_s]
    · rw [updL_n ck, updL_n ck]; exact ha k (by omega)
  · rw [if_neg c, obind_ret] at e1
    rw [if_neg c, obind2_thr] at e2
    exact sr_no (by decide) hm e1 e2
end STP
