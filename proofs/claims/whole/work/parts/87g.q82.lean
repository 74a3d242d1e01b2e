/-! FACES: module -/
section FCF
variable {fu : Nat}
/-- a module that both have taken -/
def GD (mt : KMt) (C : KCo) (ct : KCt) (Ex : KEx) (W1 : KW1) (W3 : KW3) (Wj : KWj) (W5 : KW5) (W6 : KW6) (M1 : KM1) (Mp : KMp) (M3 : KM3) (Mj : KMj) (Ml : KMl) (M5 : KM5) (M6 : KM6) (M7 : KM7) (M : KMe) : Prop := (∃ X, CX mt.bytes mt.length C M W1 W3 Wj W5 M1 Mp M3 Mj Ml M5 M6 ct X) ∧ W3.functionCount = M3.functions ∧ W6.globalCount = M6.globals ∧ M6.globals ≤ 20 ∧ R7 mt.bytes Ex M7
set_option maxRecDepth 20000 in
theorem gd_of {g : Nat → Int32} {L last : Int} {c' : CSt} {m' : MSt} {ct : KCt} {ee : Nat → Nat} {l0 l1 : Nat → Int} (hB : BB g) (hL : L ≤ 2000) (hR : RdR g last L c' m') (hc : m'.2.2.2.1.functions = m'.2.2.2.2.1.codes) (v1 : MOk c'.2.2.2.1 c'.2.2.2.2.1 m'.2.1 m'.2.2.1 m'.2.2.2.1) (v2 : memG c'.2.2.2.2.2.2.1 = true) (v5 : ∀ h : Nat, (h : Int) < m'.2.2.2.1.functions → FVd g c'.1 m'.2.2.2.2.2.2.2.2.2 m'.2.1 m'.2.2.1 m'.2.2.2.1 c'.2.2.2.2.2.1 m'.2.2.2.2.1 m'.2.2.2.2.2.1 m'.2.2.2.2.2.2.1 m'.2.2.2.2.2.2.2.1 (ee h) (l0 h) (l1 h) h ct) : GD (KMt.mk g L) c'.1 ct c'.2.2.1 c'.2.2.2.1 c'.2.2.2.2.1 c'.2.2.2.2.2.1 c'.2.2.2.2.2.2.1 c'.2.2.2.2.2.2.2.1 m'.2.1 m'.2.2.1 m'.2.2.2.1 m'.2.2.2.2.1 m'.2.2.2.2.2.1 m'.2.2.2.2.2.2.1 m'.2.2.2.2.2.2.2.1 m'.2.2.2.2.2.2.2.2.1 m'.2.2.2.2.2.2.2.2.2 := by
  obtain ⟨h1, h3, h5, h6, h7, h10, _, _⟩ := hR
  obtain ⟨T, t1, t2, t3, t4, t5, t6, t7, ee', l0', l1', t8, t9⟩ := h10
  obtain ⟨G, g1, g2, g3, g4⟩ := h6
  obtain ⟨F, f1, f2, f3, f4⟩ := h3
  obtain ⟨X, hX⟩ := gf_all v5 (fun g hg => by
    obtain ⟨s, k1, k2, k3, k4, k5, k6, k7, k8, k9, k10⟩ := t8 g (by omega)
    exact k10)
  refine ⟨⟨X, v1, h5, v2, ⟨by omega, by omega, fun k hk => (g4 k (by omega)).2.2.2.2.1⟩, hL, by show c'.1.labelCount ≤ 2000; omega, hX, hB⟩, by rw [f2, f3], by rw [g2, g3], by omega, h7⟩
set_option maxRecDepth 20000 in
theorem p_module {so : KSo} {wr : KWr} {mi : KMi} {ou : KOu} {mt : KMt} {mb : KMb} {ag : KAg} {my : KMy} {rg : KRg} {rf : KRf} {mz : KMz} {mc : KMc} {mk : KMk} {vt : KVt} {vo : KVo} {vf : KVf} {C : KCo} {Ct : KCt} {Ex : KEx} {W1 : KW1} {W3 : KW3} {Wj : KWj} {W5 : KW5} {W6 : KW6} {BR : KBR} {Rd : KRd} {BV : KBV} {Bt : KBt} {Bo : KBo} {M : KMe} {M1 : KM1} {Mp : KMp} {M3 : KM3} {Mj : KMj} {Ml : KMl} {M5 : KM5} {M6 : KM6} {M7 : KM7} (hfu : 300100 < fu) (h : TP so wr mi) (hBt : BB mt.bytes) (hmz : ∀ k : Nat, k < 8 → mz.magic k = (xHead k).toInt) (hz : ag.written = false → ∀ k, k < 131072 → mb.bytes k = 0) (hg : ∀ k, k < 20 → ag.globals k = rg.globals k) :
    ∃ (so' : KSo) (C' : KCo) (ct' : KCt) (Ex' : KEx) (W1' : KW1) (W3' : KW3) (Wj' : KWj) (W5' : KW5) (W6' : KW6) (BR' : KBR) (Rd' : KRd) (BV' : KBV) (Bt' : KBt) (Bo' : KBo) (mb' : KMb) (ag' : KAg) (wr' : KWr) (ou' : KOu) (k : Int) (t1 t2 : Bool) (rf' : KRf) (mc' : KMc) (mk' : KMk) (vt' : KVt) (vo' : KVo) (vf' : KVf) (my' : KMy) (rg' : KRg) (mi' : KMi) (mt' : KMt) (M1' : KM1) (Mp' : KMp) (M3' : KM3) (Mj' : KMj) (Ml' : KMl) (M5' : KM5) (M6' : KM6) (M7' : KM7) (M' : KMe) (x : Int),
      f_La_module fu so C Ct Ex W1 W3 Wj W5 W6 BR Rd BV Bt Bo mb ag wr ou = .ret (so', C', ct', Ex', W1', W3', Wj', W5', W6', BR', Rd', BV', Bt', Bo', mb', ag', wr', ou', k, t1) ∧ f_Mo_module fu rf mz mc mk vt vo vf my rg mi mt M1 Mp M3 Mj Ml M5 M6 M7 M = .ret (rf', mc', mk', vt', vo', vf', my', rg', mi', mt', M1', Mp', M3', Mj', Ml', M5', M6', M7', M', x, t2) ∧ TP so' wr' mi' ∧ so'.bytes = so.bytes ∧ mi'.tape = mi.tape ∧ BB mt'.bytes ∧ mi'.code = k ∧ (k = 0 → ou'.out_ 0 = (iI x).toInt64) ∧ mi'.arguments = mi.arguments ∧
      ((k = 0 ∧ t1 = true ∧ t2 = true ∧ mi'.there = true ∧ GD mt' C' ct' Ex' W1' W3' Wj' W5' W6' M1' Mp' M3' Mj' Ml' M5' M6' M7' M' ∧ MR M6' mb' ag' my' rg') ∨ (k = 1 ∧ t1 = false ∧ t2 = false ∧ mi'.there = mi.there ∧ mb' = mb ∧ ag' = ag ∧ my' = my ∧ rg' = rg)) := by
  obtain ⟨t1, t2, t3, t4, t5, t6, t7, t8, t9⟩ := h
  obtain ⟨N, hN⟩ := Int.eq_ofNat_of_zero_le t3
  obtain ⟨g, e1, _, e3, e4⟩ := l21 (fu := fu) (mi := mi) (Lg := mi.taped) hN (by omega) N 0 fu mt.bytes (by omega) (by omega)
  rw [show ((0 : Nat) : Int) = 0 from rfl] at e1
  have hBg : BB g := e4 hBt
  have hfg : ∀ k : Nat, (k : Int) < mi.taped → so.bytes k = g k := fun k hk => by
    rw [e3 k (by omega) (by omega), (t1 k (by omega)).1, nar_b]
    have hb := (t1 k (by omega)).2
    apply Int32.toInt_inj.mp
    rw [Int8.toInt_toInt32, Int32.toInt_toInt8, Int.bmod_eq_of_le (by omega) (by omega)]
  have oe := oe_Rd_reads (fu := fu) (f := so.bytes) (g := g) (N := mi.taped) hfg t4 t3 (a := so.at_) (L := so.limit) (b := so.failed) C Ct Ex W1 W3 Wj W5 W6 BR Rd
  have hso : KSo.mk so.at_ so.limit so.failed so.bytes = so := rfl
  rw [hso] at oe
  unfold f_La_module f_WR_module f_Mo_module
  rw [e1, obind_ret, t2]
  dsimp only
  simp only [jp_u]
  rcases rd_mod (fu := fu) (f := g) (L := mi.taped) (r := rf) (z := mz) (zk := mk) (m1 := M1) (mp := Mp) (z3 := M3) (zj := Mj) (zl := Ml) (z5 := M5) (z6 := M6) (z7 := M7) (ze := M) hBg (by omega) t3 t4 hmz (zs := KSo.mk so.at_ so.limit so.failed g) rfl (c0 := mc) (C := C) (Ct := Ct) (Ex := Ex) (W1 := W1) (W3 := W3) (Wj := Wj) (W5 := W5) (W6 := W6) (BR := BR) (Rd := Rd) with ⟨c', m', mc', so1, last, r1, r2, r3, r4, r5⟩ | ⟨t, so1, c', r1, r2, r3, r4⟩
  · rw [r2] at oe
    rcases oe with ⟨_, q⟩ | ⟨a, b, o1, o2, o3, o4⟩
    · cases q
    cases o2
    obtain ⟨a9, L9, b9, s1, s2, _⟩ := o3
    have ha : a = (KSo.mk a9 L9 b9 so.bytes, c'.1, c'.2.1, c'.2.2.1, c'.2.2.2.1, c'.2.2.2.2.1, c'.2.2.2.2.2.1, c'.2.2.2.2.2.2.1, c'.2.2.2.2.2.2.2.1, c'.2.2.2.2.2.2.2.2.1, c'.2.2.2.2.2.2.2.2.2, true) := Prod.ext s1 o4
    rw [o1, ha, obind_ret, r1, obind2_ret]
    dsimp only
    rw [if_pos rfl]
    have hR := r4
    obtain ⟨h1, h3, h5, h6, h7, h10, _, _⟩ := r4
    rcases md_valid (fu := fu) (f := g) (n := mi.taped) (r := rf) (mc := mc') (z := vt) (vo := vo) (vf := vf) (bv := BV) (bt := Bt) (bo := Bo) (Ct := c'.2.1) (by omega) h1 h3 h5 h6 h7 h10 t4 r5 with ⟨ct, bv', bt', bo', mc2, z', vo', vf', ee, l0, l1, v1, v2, v3, v4, v5, v6, v7⟩ | ⟨ct, bv', bt', bo', t, v1, v2, v3⟩
    · obtain ⟨mb', ag', my', rg', x1, x2, b1, b2, b3, b4⟩ := begin_both (fu := fu) (W5 := c'.2.2.2.2.2.2.1) (W6 := c'.2.2.2.2.2.2.2.1) (mb := mb) (ag := ag) (my := my) (rg := rg) (x6 := (rf, mc', m')) (by omega) hz hg h6 h5 v4 v5
      rw [v1, obind_ret, v2, obind2_ret]
      dsimp only
      simp only [reduceIte]
      rw [b1, obind_ret, obind2_ret, if_pos (by decide)]
      have hGD := gd_of (ct := ct) hBg t4 hR r5 v3 v4 v7
      have b3' : ∀ y : Int, (if m'.2.2.2.2.2.2.1.memories ≤ 0 then 0 else m'.2.2.2.2.2.2.1.least.toInt32.toInt) = y → L173_Mo_module fu (rf, mc', m') fu (KRg.mk y rg.globals) 0 = .ret (rg', x2) := fun y hy => by rw [← hy]; exact b3
      by_cases cm : m'.2.2.2.2.2.2.1.memories ≤ 0
      · rw [if_pos cm, b2, obind_ret, b3' 0 (if_pos cm), obind_ret]
        exact ⟨_, _, _, _, _, _, _, _, _, _, _, _, _, _, mb', ag', _, _, 0, true, true, _, _, _, _, _, _, my', rg', _, _, _, _, _, _, _, _, _, _, _, _, rfl, rfl, ⟨t1, rfl, Int.le_refl _, show (0 : Int) ≤ 2000 by decide, t5, t6, t7, rfl, rfl⟩, rfl, rfl, hBg, rfl, fun _ => by rw [o_0]; exact congrArg (fun y => (iI y).toInt64) hGD.2.1, rfl, Or.inl ⟨rfl, rfl, rfl, rfl, hGD, b4⟩⟩
      · rw [if_neg cm, b2, obind_ret, b3' _ (if_neg cm), obind_ret]
        exact ⟨_, _, _, _, _, _, _, _, _, _, _, _, _, _, mb', ag', _, _, 0, true, true, _, _, _, _, _, _, my', rg', _, _, _, _, _, _, _, _, _, _, _, _, rfl, rfl, ⟨t1, rfl, Int.le_refl _, show (0 : Int) ≤ 2000 by decide, t5, t6, t7, rfl, rfl⟩, rfl, rfl, hBg, rfl, fun _ => by rw [o_0]; exact congrArg (fun y => (iI y).toInt64) hGD.2.1, rfl, Or.inl ⟨rfl, rfl, rfl, rfl, hGD, b4⟩⟩
    · rw [v1, obind_ret, v2, obind2_thr]
      dsimp only
      simp only [reduceIte, Bool.false_eq_true]
      rw [obind2_thr, if_pos rfl]
      exact ⟨_, _, _, _, _, _, _, _, _, _, _, _, _, _, mb, ag, _, ou, 1, false, false, _, _, _, _, _, _, my, rg, _, _, _, _, _, _, _, _, _, _, _, _, rfl, rfl, ⟨t1, rfl, Int.le_refl _, show (0 : Int) ≤ 2000 by decide, t5, t6, t7, t8, v3.symm⟩, rfl, rfl, hBg, rfl, fun q => absurd q (by decide), rfl, Or.inr ⟨rfl, rfl, rfl, rfl, rfl, rfl, rfl, rfl⟩⟩
  · rw [r3] at oe
    rcases oe with ⟨_, q⟩ | ⟨a, b, o1, o2, o3, o4⟩
    · cases q
    cases o2
    obtain ⟨a9, L9, b9, s1, s2, _⟩ := o3
    have ha : a = (KSo.mk a9 L9 b9 so.bytes, c'.1, c'.2.1, c'.2.2.1, c'.2.2.2.1, c'.2.2.2.2.1, c'.2.2.2.2.2.1, c'.2.2.2.2.2.2.1, c'.2.2.2.2.2.2.2.1, c'.2.2.2.2.2.2.2.2.1, c'.2.2.2.2.2.2.2.2.2, false) := Prod.ext s1 o4
    rw [o1, ha, obind_ret, r1, obind2_thr]
    dsimp only
    simp only [reduceIte, Bool.false_eq_true]
    rw [obind2_thr, if_pos rfl]
    exact ⟨_, _, _, _, _, _, _, _, _, _, _, _, _, _, mb, ag, _, ou, 1, false, false, _, _, _, _, _, _, my, rg, _, _, _, _, _, _, _, _, _, _, _, _, rfl, rfl, ⟨t1, rfl, Int.le_refl _, show (0 : Int) ≤ 2000 by decide, t5, t6, t7, t8, r2.symm⟩, rfl, rfl, hBg, rfl, fun q => absurd q (by decide), rfl, Or.inr ⟨rfl, rfl, rfl, rfl, rfl, rfl, rfl, rfl⟩⟩
end FCF
