/-! THE LAW: what holds between two calls -/
/-- both objects between two calls of a script -/
def lwR (aWa aCo : Nat) (gMw gMc : Value) (so : KSo) (wr : KWr) (mi : KMi) (ar : KAr) (ma : KMa) (rq : KRq) (mz : KMz) (mb : KMb) (ag : KAg) (my : KMy) (rg : KRg) (mt mts : KMt) (C : KCo) (ct : KCt) (Ex : KEx) (W1 : KW1) (W3 : KW3) (Wj : KWj) (W5 : KW5) (W6 : KW6) (M1 : KM1) (Mp : KMp) (M3 : KM3) (Mj : KMj) (Ml : KMl) (M5 : KM5) (M6 : KM6) (M7 : KM7) (M : KMe) : Prop := TP so wr mi ∧ (∀ k, k < 8 → ar.arguments k = mi.arguments k) ∧ ma.steps = rq.steps ∧ 0 ≤ ma.steps ∧ ma.steps ≤ 100001 ∧ BB mt.bytes ∧ BB mts.bytes ∧ (∀ k : Nat, k < 8 → mz.magic k = (xHead k).toInt) ∧ (ag.written = false → ∀ k, k < 131072 → mb.bytes k = 0) ∧ (∀ k, k < 20 → ag.globals k = rg.globals k) ∧ (mi.there = true → GD mt C ct Ex W1 W3 Wj W5 W6 M1 Mp M3 Mj Ml M5 M6 M7 M ∧ MR M6 mb ag my rg ∧ gMw = .ref aWa ∧ gMc = .ref aCo)
section LWR
variable {fu : Nat} {aWa aCo : Nat} {gMw gMc : Value} {so : KSo} {wr : KWr} {mi : KMi} {ar : KAr} {ma : KMa} {rq : KRq} {mz : KMz} {mb : KMb} {ag : KAg} {my : KMy} {rg : KRg} {mt mts : KMt} {C : KCo} {ct : KCt} {Ex : KEx} {W1 : KW1} {W3 : KW3} {Wj : KWj} {W5 : KW5} {W6 : KW6} {M1 : KM1} {Mp : KMp} {M3 : KM3} {Mj : KMj} {Ml : KMl} {M5 : KM5} {M6 : KM6} {M7 : KM7} {M : KMe} {ou : KOu}
set_option maxRecDepth 20000 in
theorem r_feed (hfu : 300100 < fu) (h : lwR aWa aCo gMw gMc so wr mi ar ma rq mz mb ag my rg mt mts C ct Ex W1 W3 Wj W5 W6 M1 Mp M3 Mj Ml M5 M6 M7 M) (a b c d e : Int32) : ∃ (so' : KSo) (wr' : KWr) (ou' : KOu) (mi' : KMi) (k x : Int), f_La_feed fu so wr ou a b c d e = .ret (so', wr', ou', k) ∧ f_Mo_feed fu mi a b c d e = .ret (mi', x) ∧ mi'.code = k ∧ (k = 0 → ou'.out_ 0 = (iI x).toInt64) ∧ lwR aWa aCo gMw gMc so' wr' mi' ar ma rq mz mb ag my rg mt mts C ct Ex W1 W3 Wj W5 W6 M1 Mp M3 Mj Ml M5 M6 M7 M := by
  obtain ⟨h1, h2, h3, h4, h5, h6, h7, h8, h9, h10, h11⟩ := h
  obtain ⟨so', wr', ou', mi', k, x, e1, e2, e3, e4, e5, e6, e7⟩ := p_feed (fu := fu) (ou := ou) (by omega) h1 a b c d e
  exact ⟨so', wr', ou', mi', k, x, e1, e2, e4, e5, e3, by rw [e7]; exact h2, h3, h4, h5, h6, h7, h8, h9, h10, by rw [e6]; exact h11⟩
set_option maxRecDepth 20000 in
theorem r_end (h : lwR aWa aCo gMw gMc so wr mi ar ma rq mz mb ag my rg mt mts C ct Ex W1 W3 Wj W5 W6 M1 Mp M3 Mj Ml M5 M6 M7 M) (n : Int) : ∃ (wr' : KWr) (ou' : KOu) (mi' : KMi) (k x : Int), f_La_end wr ou n = .ret (wr', ou', k) ∧ f_Mo_end mi n = .ret (mi', x) ∧ mi'.code = k ∧ (k = 0 → ou'.out_ 0 = (iI x).toInt64) ∧ lwR aWa aCo gMw gMc so wr' mi' ar ma rq mz mb ag my rg mt mts C ct Ex W1 W3 Wj W5 W6 M1 Mp M3 Mj Ml M5 M6 M7 M := by
  obtain ⟨h1, h2, h3, h4, h5, h6, h7, h8, h9, h10, h11⟩ := h
  obtain ⟨wr', ou', mi', k, x, e1, e2, e3, e4, e5, e6, e7⟩ := p_end (ou := ou) h1 n
  exact ⟨wr', ou', mi', k, x, e1, e2, e4, e5, e3, by rw [e7]; exact h2, h3, h4, h5, h6, h7, h8, h9, h10, by rw [e6]; exact h11⟩
set_option maxRecDepth 20000 in
theorem r_find (hfu : 300100 < fu) (h : lwR aWa aCo gMw gMc so wr mi ar ma rq mz mb ag my rg mt mts C ct Ex W1 W3 Wj W5 W6 M1 Mp M3 Mj Ml M5 M6 M7 M) : ∃ (wr' : KWr) (mi' : KMi) (x : Int), f_WR_find fu so Ex wr = .ret (wr', x) ∧ f_Mo_find fu mi mt M7 = .ret (mi', x) ∧ lwR aWa aCo gMw gMc so wr' mi' ar ma rq mz mb ag my rg mt mts C ct Ex W1 W3 Wj W5 W6 M1 Mp M3 Mj Ml M5 M6 M7 M := by
  obtain ⟨h1, h2, h3, h4, h5, h6, h7, h8, h9, h10, h11⟩ := h
  obtain ⟨wr', mi', x, e1, e2, e3, e6, e7⟩ := p_find (fu := fu) (mt := mt) (Ex := Ex) (M7 := M7) (by omega) h1 (fun q => (h11 q).1.2.2.2.2)
  exact ⟨wr', mi', x, e1, e2, e3, by rw [e7]; exact h2, h3, h4, h5, h6, h7, h8, h9, h10, by rw [e6]; exact h11⟩
set_option maxRecDepth 20000 in
theorem r_argument (h : lwR aWa aCo gMw gMc so wr mi ar ma rq mz mb ag my rg mt mts C ct Ex W1 W3 Wj W5 W6 M1 Mp M3 Mj Ml M5 M6 M7 M) (v : Int64) : ∃ (ar' : KAr) (wr' : KWr) (ou' : KOu) (mi' : KMi) (k x : Int), f_La_argument ar wr ou v = .ret (ar', wr', ou', k) ∧ f_Mo_argument mi v = .ret (mi', x) ∧ mi'.code = k ∧ (k = 0 → ou'.out_ 0 = (iI x).toInt64) ∧ lwR aWa aCo gMw gMc so wr' mi' ar' ma rq mz mb ag my rg mt mts C ct Ex W1 W3 Wj W5 W6 M1 Mp M3 Mj Ml M5 M6 M7 M := by
  obtain ⟨h1, h2, h3, h4, h5, h6, h7, h8, h9, h10, h11⟩ := h
  obtain ⟨ar', wr', ou', mi', k, x, e1, e2, e3, e4, e5, e6, e7⟩ := p_argument (ou := ou) h1 h2 v
  exact ⟨ar', wr', ou', mi', k, x, e1, e2, e4, e5, e3, e7, h3, h4, h5, h6, h7, h8, h9, h10, by rw [e6]; exact h11⟩
set_option maxRecDepth 20000 in
theorem r_count (h : lwR aWa aCo gMw gMc so wr mi ar ma rq mz mb ag my rg mt mts C ct Ex W1 W3 Wj W5 W6 M1 Mp M3 Mj Ml M5 M6 M7 M) (n : Int) : ∃ (ou' : KOu) (mi' : KMi) (k x : Int), f_La_count W3 W6 ag ma wr ou n = .ret (ou', k) ∧ f_Mo_count1 rg rq mi M3 M6 n = .ret (mi', x) ∧ mi'.code = k ∧ (k = 0 → ou'.out_ 0 = (iI x).toInt64) ∧ lwR aWa aCo gMw gMc so wr mi' ar ma rq mz mb ag my rg mt mts C ct Ex W1 W3 Wj W5 W6 M1 Mp M3 Mj Ml M5 M6 M7 M := by
  obtain ⟨h1, h2, h3, h4, h5, h6, h7, h8, h9, h10, h11⟩ := h
  obtain ⟨ou', mi', k, x, e1, e2, e3, e4, e5, e6, e7⟩ := p_count (W3 := W3) (W6 := W6) (ag := ag) (ma := ma) (rg := rg) (rq := rq) (M3 := M3) (M6 := M6) (ou := ou) h1 (fun q => ⟨(h11 q).1.2.1, (h11 q).1.2.2.1, (h11 q).2.1.2.1⟩) h3 n
  exact ⟨ou', mi', k, x, e1, e2, e4, e5, e3, by rw [e7]; exact h2, h3, h4, h5, h6, h7, h8, h9, h10, by rw [e6]; exact h11⟩
set_option maxRecDepth 20000 in
theorem r_global (h : lwR aWa aCo gMw gMc so wr mi ar ma rq mz mb ag my rg mt mts C ct Ex W1 W3 Wj W5 W6 M1 Mp M3 Mj Ml M5 M6 M7 M) (n : Int) : ∃ (ou' : KOu) (mi' : KMi) (k : Int) (x : Int64), f_La_global W6 ag wr ou n = .ret (ou', k) ∧ f_Mo_global rg mi M6 n = .ret (mi', x) ∧ mi'.code = k ∧ (k = 0 → ou'.out_ 0 = x) ∧ lwR aWa aCo gMw gMc so wr mi' ar ma rq mz mb ag my rg mt mts C ct Ex W1 W3 Wj W5 W6 M1 Mp M3 Mj Ml M5 M6 M7 M := by
  obtain ⟨h1, h2, h3, h4, h5, h6, h7, h8, h9, h10, h11⟩ := h
  obtain ⟨ou', mi', k, x, e1, e2, e3, e4, e5, e6, e7⟩ := p_global (W6 := W6) (ag := ag) (rg := rg) (M6 := M6) (ou := ou) h1 (fun q => ⟨(h11 q).1.2.2.1, (h11 q).1.2.2.2.1, h10⟩) n
  exact ⟨ou', mi', k, x, e1, e2, e4, e5, e3, by rw [e7]; exact h2, h3, h4, h5, h6, h7, h8, h9, h10, by rw [e6]; exact h11⟩
set_option maxRecDepth 20000 in
theorem r_memory (h : lwR aWa aCo gMw gMc so wr mi ar ma rq mz mb ag my rg mt mts C ct Ex W1 W3 Wj W5 W6 M1 Mp M3 Mj Ml M5 M6 M7 M) (n : Int) : ∃ (ou' : KOu) (mi' : KMi) (k x : Int), f_La_memory mb ag wr ou n = .ret (ou', k) ∧ f_Mo_memory my rg mi n = .ret (mi', x) ∧ mi'.code = k ∧ (k = 0 → ou'.out_ 0 = (iI x).toInt64) ∧ lwR aWa aCo gMw gMc so wr mi' ar ma rq mz mb ag my rg mt mts C ct Ex W1 W3 Wj W5 W6 M1 Mp M3 Mj Ml M5 M6 M7 M := by
  obtain ⟨h1, h2, h3, h4, h5, h6, h7, h8, h9, h10, h11⟩ := h
  obtain ⟨ou', mi', k, x, e1, e2, e3, e4, e5, e6, e7⟩ := p_memory (mb := mb) (ag := ag) (my := my) (rg := rg) (ou := ou) h1 (fun q => ⟨(h11 q).2.1.2.1, (h11 q).2.1.2.2.1, (h11 q).2.1.2.2.2.1, fun k hk => ((h11 q).2.1.1 k hk).1⟩) n
  exact ⟨ou', mi', k, x, e1, e2, e4, e5, e3, by rw [e7]; exact h2, h3, h4, h5, h6, h7, h8, h9, h10, by rw [e6]; exact h11⟩
set_option maxRecDepth 20000 in
theorem r_call {as : KAs} {af : KAf} {rf : KRf} {mc : KMc} {rs : KRs} {rr : KRr} {rl : KRl} (hfu : 300100 < fu) (h : lwR aWa aCo gMw gMc so wr mi ar ma rq mz mb ag my rg mt mts C ct Ex W1 W3 Wj W5 W6 M1 Mp M3 Mj Ml M5 M6 M7 M) (v : Int) : ∃ (mb' : KMb) (ag' : KAg) (ma' : KMa) (as' : KAs) (af' : KAf) (wr' : KWr) (ou' : KOu) (k : Int) (rf' : KRf) (mc' : KMc) (my' : KMy) (rg' : KRg) (rs' : KRs) (rr' : KRr) (rl' : KRl) (rq' : KRq) (mi' : KMi) (x : Int64) (tg : Bool), f_La_call fu C ct W1 W3 Wj W5 mb ag ma as af ar wr ou v = .ret (mb', ag', ma', as', af', wr', ou', k) ∧ f_Mo_call fu rf mc my rg rs rr rl rq mi mt M1 Mp M3 Mj M5 M v = .ret (rf', mc', my', rg', rs', rr', rl', rq', mi', x, tg) ∧ mi'.code = k ∧ (k = 0 → ou'.out_ 0 = x) ∧ lwR aWa aCo gMw gMc so wr' mi' ar ma' rq' mz mb' ag' my' rg' mt mts C ct Ex W1 W3 Wj W5 W6 M1 Mp M3 Mj Ml M5 M6 M7 M := by
  obtain ⟨h1, h2, h3, h4, h5, h6, h7, h8, h9, h10, h11⟩ := h
  obtain ⟨mb', ag', ma', as', af', wr', ou', k, rf', mc', my', rg', rs', rr', rl', rq', mi', x, tg, e1, e2, e3, e4, e5, e6, e7, e8, e9, e10, e11, e12⟩ := p_call (f := mt.bytes) (n := mt.length) (Ml := Ml) (M6 := M6) (mt := mt) (as := as) (af := af) (rf := rf) (mc := mc) (rs := rs) (rr := rr) (rl := rl) (ou := ou) hfu h1 h2 h3 h4 h5 (fun q => ⟨(h11 q).1.1, (h11 q).2.1, rfl⟩) v
  refine ⟨mb', ag', ma', as', af', wr', ou', k, rf', mc', my', rg', rs', rr', rl', rq', mi', x, tg, e1, e2, e4, e5, e3, by rw [e7]; exact h2, e8, e9, e10, h6, h7, h8, ?_, ?_, fun q => ?_⟩
  · cases hq : mi.there with
    | true => exact (e11 hq).2.2.2.2.2.2
    | false => obtain ⟨a1, a2, a3, a4⟩ := e12 hq; rw [a1, a2]; exact h9
  · cases hq : mi.there with
    | true => exact (e11 hq).2.2.2.2.1
    | false => obtain ⟨a1, a2, a3, a4⟩ := e12 hq; rw [a2, a4]; exact h10
  · rw [e6] at q
    exact ⟨(h11 q).1, e11 q, (h11 q).2.2⟩
set_option maxRecDepth 20000 in
theorem r_callO {rf : KRf} {mc : KMc} {rs : KRs} {rr : KRr} {rl : KRl} (h : lwR aWa aCo gMw gMc so wr mi ar ma rq mz mb ag my rg mt mts C ct Ex W1 W3 Wj W5 W6 M1 Mp M3 Mj Ml M5 M6 M7 M) (hl : ¬ wr.loaded = true) (v : Int) : ∃ (mi' : KMi) (tg : Bool), f_La_callO wr ou v = .ret (ou, 2) ∧ f_Mo_call fu rf mc my rg rs rr rl rq mi mt M1 Mp M3 Mj M5 M v = .ret (rf, mc, my, rg, rs, rr, rl, rq, mi', 0, tg) ∧ mi'.code = 2 ∧ lwR aWa aCo gMw gMc so wr mi' ar ma rq mz mb ag my rg mt mts C ct Ex W1 W3 Wj W5 W6 M1 Mp M3 Mj Ml M5 M6 M7 M := by
  obtain ⟨h1, h2, h3, h4, h5, h6, h7, h8, h9, h10, h11⟩ := h
  have ht : ¬ mi.there = true := by rw [← h1.2.2.2.2.2.2.2.1]; exact hl
  refine ⟨KMi.mk mi.tape mi.taped mi.there mi.reason mi.arguments mi.argumentCount 2, true, ?_, ?_, rfl, h1, h2, h3, h4, h5, h6, h7, h8, h9, h10, h11⟩
  · unfold f_La_callO f_WR_callO
    rw [rq_m, if_neg hl, obind2_thr, obind2_thr, if_neg (show ¬ (16 : Nat) = 14 by decide), if_pos rfl]
  · unfold f_Mo_call
    simp only [jp]
    rw [mo_good, obind_ret]
    dsimp only
    simp only [if_neg ht]
set_option maxRecDepth 20000 in
theorem r_module {rf : KRf} {mc : KMc} {mk : KMk} {vt : KVt} {vo : KVo} {vf : KVf} {sC : KCo} {sCt : KCt} {sEx : KEx} {sW1 : KW1} {sW3 : KW3} {sWj : KWj} {sW5 : KW5} {sW6 : KW6} {BR : KBR} {Rd : KRd} {BV : KBV} {Bt : KBt} {Bo : KBo} {sM1 : KM1} {sMp : KMp} {sM3 : KM3} {sMj : KMj} {sMl : KMl} {sM5 : KM5} {sM6 : KM6} {sM7 : KM7} {sM : KMe} (aWs aCs : Nat) (hfu : 300100 < fu) (h : lwR aWa aCo gMw gMc so wr mi ar ma rq mz mb ag my rg mt mts C ct Ex W1 W3 Wj W5 W6 M1 Mp M3 Mj Ml M5 M6 M7 M) : ∃ (so' : KSo) (C' : KCo) (ct' : KCt) (Ex' : KEx) (W1' : KW1) (W3' : KW3) (Wj' : KWj) (W5' : KW5) (W6' : KW6) (BR' : KBR) (Rd' : KRd) (BV' : KBV) (Bt' : KBt) (Bo' : KBo) (mb' : KMb) (ag' : KAg) (wr' : KWr) (ou' : KOu) (k : Int) (t1 t2 : Bool) (rf' : KRf) (mc' : KMc) (mk' : KMk) (vt' : KVt) (vo' : KVo) (vf' : KVf) (my' : KMy) (rg' : KRg) (mi' : KMi) (mt' : KMt) (M1' : KM1) (Mp' : KMp) (M3' : KM3) (Mj' : KMj) (Ml' : KMl) (M5' : KM5) (M6' : KM6) (M7' : KM7) (M' : KMe) (x : Int),
      f_La_module fu so sC sCt sEx sW1 sW3 sWj sW5 sW6 BR Rd BV Bt Bo mb ag wr ou = .ret (so', C', ct', Ex', W1', W3', Wj', W5', W6', BR', Rd', BV', Bt', Bo', mb', ag', wr', ou', k, t1) ∧ f_Mo_module fu rf mz mc mk vt vo vf my rg mi mts sM1 sMp sM3 sMj sMl sM5 sM6 sM7 sM = .ret (rf', mc', mk', vt', vo', vf', my', rg', mi', mt', M1', Mp', M3', Mj', Ml', M5', M6', M7', M', x, t2) ∧ mi'.code = k ∧ (k = 0 → ou'.out_ 0 = (iI x).toInt64) ∧
      ((t1 = true ∧ t2 = true ∧ lwR aWs aCs (.ref aWs) (.ref aCs) so' wr' mi' ar ma rq mz mb' ag' my' rg' mt' mt C' ct' Ex' W1' W3' Wj' W5' W6' M1' Mp' M3' Mj' Ml' M5' M6' M7' M') ∨ (t1 = false ∧ t2 = false ∧ lwR aWa aCo gMw gMc so' wr' mi' ar ma rq mz mb' ag' my' rg' mt mt' C ct Ex W1 W3 Wj W5 W6 M1 Mp M3 Mj Ml M5 M6 M7 M)) := by
  obtain ⟨h1, h2, h3, h4, h5, h6, h7, h8, h9, h10, h11⟩ := h
  obtain ⟨so', C', ct', Ex', W1', W3', Wj', W5', W6', BR', Rd', BV', Bt', Bo', mb', ag', wr', ou', k, t1, t2, rf', mc', mk', vt', vo', vf', my', rg', mi', mt', M1', Mp', M3', Mj', Ml', M5', M6', M7', M', x, e1, e2, e3, e4, e5, e6, e7, e8, e9, e10⟩ := p_module (fu := fu) (ou := ou) (rf := rf) (mc := mc) (mk := mk) (vt := vt) (vo := vo) (vf := vf) (C := sC) (Ct := sCt) (Ex := sEx) (W1 := sW1) (W3 := sW3) (Wj := sWj) (W5 := sW5) (W6 := sW6) (BR := BR) (Rd := Rd) (BV := BV) (Bt := Bt) (Bo := Bo) (M1 := sM1) (Mp := sMp) (M3 := sM3) (Mj := sMj) (Ml := sMl) (M5 := sM5) (M6 := sM6) (M7 := sM7) (M := sM) hfu h1 h7 h8 h9 h10
  refine ⟨so', C', ct', Ex', W1', W3', Wj', W5', W6', BR', Rd', BV', Bt', Bo', mb', ag', wr', ou', k, t1, t2, rf', mc', mk', vt', vo', vf', my', rg', mi', mt', M1', Mp', M3', Mj', Ml', M5', M6', M7', M', x, e1, e2, e7, e8, ?_⟩
  rcases e10 with ⟨_, a2, a3, a4, a5, a6⟩ | ⟨_, a2, a3, a4, a5, a6, a7, a8⟩
  · exact Or.inl ⟨a2, a3, e3, by rw [e9]; exact h2, h3, h4, h5, e6, h6, h8, a6.2.2.2.2.2.2, a6.2.2.2.2.1, fun _ => ⟨a5, a6, rfl, rfl⟩⟩
  · subst a5 a6 a7 a8
    exact Or.inr ⟨a2, a3, e3, by rw [e9]; exact h2, h3, h4, h5, h6, e6, h8, h9, h10, by rw [a4]; exact h11⟩
end LWR
