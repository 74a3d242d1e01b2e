/-! FACES: call -/
section FCD
variable {fu : Nat} {f : Nat → Int32} {n : Int} {C : KCo} {M : KMe} {W1 : KW1} {W3 : KW3} {Wj : KWj} {W5 : KW5} {M1 : KM1} {Mp : KMp} {M3 : KM3} {Mj : KMj} {Ml : KMl} {M5 : KM5} {M6 : KM6} {ct : KCt} {so : KSo} {wr : KWr} {mi : KMi} {ou : KOu} {mt : KMt} {mb : KMb} {ag : KAg} {ma : KMa} {as : KAs} {af : KAf} {ar : KAr} {my : KMy} {rg : KRg} {rs : KRs} {rr : KRr} {rl : KRl} {rq : KRq} {rf : KRf} {mc : KMc}
set_option maxRecDepth 20000 in
theorem l107 {x8 x16 : KMi × Bool} {ty pc : Nat} (hn : x8.1.argumentCount = (pc : Int)) (hpc : pc ≤ 8) (hty : ty < 20) : ∀ (j k n1 : Nat) (vs : Nat → Int64), k + j = pc → j < n1 → ∃ vs', L107_Mo_call fu Mp x8 ty x16 n1 (KRs.mk vs k) k = .ret (KRs.mk vs' pc, (pc : Int)) ∧ (∀ q, q < k → vs' q = vs q) ∧ (∀ q, k ≤ q → q < pc → vs' q = if Mp ty q = 127 then (x16.1.arguments q).toInt32.toInt64 else x16.1.arguments q) := by
  intro j
  induction j with
  | zero =>
    intro k n1 vs hk h1
    obtain ⟨n1, rfl⟩ : ∃ q, n1 = q + 1 := ⟨n1 - 1, by omega⟩
    have : k = pc := by omega
    subst this
    exact ⟨vs, by rw [L107_Mo_call.eq_2, if_pos (by omega)], fun _ _ => rfl, fun q h2 h3 => absurd h2 (by omega)⟩
  | succ j ih =>
    intro k n1 vs hk h1
    obtain ⟨n1, rfl⟩ : ∃ q, n1 = q + 1 := ⟨n1 - 1, by omega⟩
    have hv : L107_Mo_call fu Mp x8 ty x16 (n1 + 1) (KRs.mk vs k) k = L107_Mo_call fu Mp x8 ty x16 n1 (KRs.mk (vp_updL vs k (if Mp ty k = 127 then (x16.1.arguments k).toInt32.toInt64 else x16.1.arguments k)) ((k + 1 : Nat) : Int)) ((k + 1 : Nat) : Int) := by
      rw [L107_Mo_call.eq_2, if_neg (by omega), if_pos (by omega), if_pos (show (0 : Int) ≤ (k : Int) ∧ (k : Int) < 8 by omega)]
      simp only [jp, if_pos (show (0 : Int) ≤ (k : Int) ∧ (k : Int) < 8 by omega), if_pos (show (0 : Int) ≤ (k : Int) ∧ (k : Int) < 12097 by omega), if_pos (show R32 ((k : Int) + 1) by omega), Int.toNat_natCast]
      by_cases c : Mp ty k = 127
      · rw [if_pos c, if_pos c]; rfl
      · rw [if_neg c, if_neg c]; rfl
    obtain ⟨vs', e1, e2, e3⟩ := ih (k + 1) n1 (vp_updL vs k (if Mp ty k = 127 then (x16.1.arguments k).toInt32.toInt64 else x16.1.arguments k)) (by omega) (by omega)
    refine ⟨vs', hv.trans e1, fun q h2 => ?_, fun q h2 h3 => ?_⟩
    · rw [e2 q (by omega), updL_n (by omega)]
    · by_cases c : q = k
      · rw [e2 q (by omega), c, updL_s]
      · exact e3 q (by omega) h3
set_option maxRecDepth 20000 in
theorem p_call (hfu : 300100 < fu) (h : TP so wr mi) (ha : ∀ k, k < 8 → ar.arguments k = mi.arguments k) (hs : ma.steps = rq.steps) (hs1 : 0 ≤ ma.steps) (hs2 : ma.steps ≤ 100001) (hL : mi.there = true → (∃ X, CX f n C M W1 W3 Wj W5 M1 Mp M3 Mj Ml M5 M6 ct X) ∧ MR M6 mb ag my rg ∧ mt = KMt.mk f n) (v : Int) : ∃ (mb' : KMb) (ag' : KAg) (ma' : KMa) (as' : KAs) (af' : KAf) (wr' : KWr) (ou' : KOu) (k : Int) (rf' : KRf) (mc' : KMc) (my' : KMy) (rg' : KRg) (rs' : KRs) (rr' : KRr) (rl' : KRl) (rq' : KRq) (mi' : KMi) (x : Int64) (tg : Bool), f_La_call fu C ct W1 W3 Wj W5 mb ag ma as af ar wr ou v = .ret (mb', ag', ma', as', af', wr', ou', k) ∧ f_Mo_call fu rf mc my rg rs rr rl rq mi mt M1 Mp M3 Mj M5 M v = .ret (rf', mc', my', rg', rs', rr', rl', rq', mi', x, tg) ∧ TP so wr' mi' ∧ mi'.code = k ∧ (k = 0 → ou'.out_ 0 = x) ∧ mi'.there = mi.there ∧ mi'.arguments = mi.arguments ∧ ma'.steps = rq'.steps ∧ 0 ≤ ma'.steps ∧ ma'.steps ≤ 100001 ∧ (mi.there = true → MR M6 mb' ag' my' rg') ∧ (mi.there = false → mb' = mb ∧ ag' = ag ∧ my' = my ∧ rg' = rg) := by
  obtain ⟨t1, t2, t3, t4, t5, t6, t7, t8, t9⟩ := h
  unfold f_La_call f_WR_call f_Mo_call
  simp only [jp]
  rw [rq_m, t8, mo_good, obind_ret]
  dsimp only
  by_cases c : mi.there = true
  · obtain ⟨⟨X, hX⟩, hm, hmt⟩ := hL c
    have hM := hX.1
    have hM' := hM
    obtain ⟨T1, T3, g1, g2, g3, g4, g5, g6, g7, g8, g9⟩ := hM'
    simp only [if_pos c]
    rw [obind2_ret, rq_r, g6, ← g7]
    by_cases cn : 0 ≤ v ∧ v < M3.functions
    · obtain ⟨u, hu⟩ := Int.eq_ofNat_of_zero_le cn.1
      subst hu
      have hu2 : (u : Int) < M3.functions := cn.2
      obtain ⟨T1', y1, y2, y3, y4, y5, y6⟩ := hM.ty hu2
      have hpc := hM.pc hu2
      obtain ⟨pc, hpc2⟩ := Int.eq_ofNat_of_zero_le hpc.1
      have hpc3 : M1.parameterCount (tyOf M3 u) = (pc : Int) := hpc2
      rw [if_pos cn, obind2_ret, wa_pc hM hu2, obind_ret, hpc2, if_neg (show ¬ (u : Int) < 0 by omega), if_neg (show ¬ M3.functions ≤ (u : Int) by omega), mo_good, obind_ret]
      dsimp only
      rw [if_pos rfl, if_pos rfl, mo_ty hM hu2, obind_ret, if_pos (show (0 : Int) ≤ (tyOf M3 u : Int) ∧ (tyOf M3 u : Int) < 20 by omega), t5, Int.toNat_natCast, hpc3]
      by_cases ca : mi.argumentCount = (pc : Int)
      · rw [if_pos ca, if_pos ca, mo_good, obind_ret]
        dsimp only
        rw [if_pos rfl, if_pos rfl]
        obtain ⟨vs, k1, _, k3⟩ := l107 (fu := fu) (Mp := Mp) (x8 := (KMi.mk mi.tape mi.taped mi.there mi.reason mi.arguments mi.argumentCount 0, true)) (x16 := (KMi.mk mi.tape mi.taped mi.there mi.reason mi.arguments 0 0, true)) (ty := tyOf M3 u) (pc := pc) ca (by omega) (by omega) pc 0 fu rs.values (by omega) (by omega)
        rw [show ((0 : Nat) : Int) = 0 from rfl] at k1
        rw [k1, obind_ret]
        dsimp only
        obtain ⟨mb', ag', ma', as', af', q1, q2, q3, q4⟩ := run_both (fu := fu) (ma := ma) (as := as) (af := af) (ar := ar) (mc := mc) (rq := rq) (rr := rr) (rl := rl) (r := rf) (vs := vs) hfu hX hu2 hm (fun p hp => by rw [k3 p (by omega) (by omega), ← ha p (by omega)])
        rw [hpc2] at q4
        rw [q1, obind_ret, hmt]
        dsimp only
        rcases q4 with ⟨mc', my', rg', rs', rr', rl', p1, p2, p3, p4⟩ | ⟨t, p1, p2, p3, p4, p5⟩
        · rw [p1, obind2_ret, if_pos p2, res_both hM hu2 p4, obind_ret, obind2_ret, if_pos (by decide), if_pos (show (0 : Int) ≤ (tyOf M3 u : Int) ∧ (tyOf M3 u : Int) < 20 by omega)]
          have hres : M1.results (tyOf M3 u) = res M1 M3 u := rfl
          rw [hres]
          by_cases cr : res M1 M3 u = 0
          · rw [if_pos cr, if_pos cr]
            exact ⟨mb', ag', ma', as', af', _, _, 0, _, _, my', rg', rs', _, _, _, _, _, _, rfl, rfl, ⟨t1, t2, t3, t4, rfl, Int.le_refl _, show (0 : Int) ≤ 8 by decide, rfl, p2⟩, rfl, fun _ => o_0, rfl, rfl, rfl, q2, q3, fun _ => p3, fun q => absurd (c.symm.trans q) (by decide)⟩
          · rw [if_neg cr, if_neg cr, if_pos (by decide)]
            exact ⟨mb', ag', ma', as', af', _, _, 0, _, _, my', rg', rs', _, _, _, _, _, _, rfl, rfl, ⟨t1, t2, t3, t4, rfl, Int.le_refl _, show (0 : Int) ≤ 8 by decide, rfl, p2⟩, rfl, fun _ => o_0, rfl, rfl, rfl, q2, q3, fun _ => p3, fun q => absurd (c.symm.trans q) (by decide)⟩
        · rw [p1, obind2_thr, if_neg (by rw [p2]; exact p3), obind2_thr, if_neg (show ¬ (17 : Nat) = 14 by decide), if_neg (show ¬ (17 : Nat) = 16 by decide), if_pos rfl]
          exact ⟨mb', ag', ma', as', af', _, ou, 3, _, _, t.2.2.1, t.2.2.2.1, _, _, _, _, _, _, _, rfl, rfl, ⟨t1, t2, t3, t4, rfl, Int.le_refl _, show (0 : Int) ≤ 8 by decide, rfl, p2⟩, rfl, fun q => absurd q (by decide), rfl, rfl, p5.symm, q2, q3, fun _ => p4, fun q => absurd (c.symm.trans q) (by decide)⟩
      · rw [if_neg ca, if_neg ca, mo_good, obind_ret, obind2_thr, if_pos rfl]
        dsimp only
        rw [if_neg Bool.false_ne_true, if_neg Bool.false_ne_true]
        exact ⟨mb, ag, ma, as, af, _, ou, 1, _, _, my, rg, _, _, _, _, _, _, _, rfl, rfl, ⟨t1, t2, t3, t4, rfl, Int.le_refl _, show (0 : Int) ≤ 8 by decide, rfl, t9⟩, rfl, fun q => absurd q (by decide), rfl, rfl, hs, hs1, hs2, fun _ => hm, fun _ => ⟨rfl, rfl, rfl, rfl⟩⟩
    · rw [if_neg cn, obind2_thr, obind2_thr, if_pos rfl]
      have e2 : ∀ (K : KMi × Bool → Out Empty (KRf × KMc × KMy × KRg × KRs × KRr × KRl × KRq × KMi × Int64 × Bool)) (Z : Out Empty (KRf × KMc × KMy × KRg × KRs × KRr × KRl × KRq × KMi × Int64 × Bool)), (if v < 0 then Z else if M3.functions ≤ v then Z else obind (f_Mo_good (KMi.mk mi.tape mi.taped mi.there mi.reason mi.arguments mi.argumentCount 0) true 1) K) = Z := fun K Z => by
        by_cases c1 : v < 0
        · rw [if_pos c1]
        · rw [if_neg c1, if_pos (by omega)]
      rw [e2, mo_good, obind_ret]
      dsimp only
      rw [if_neg Bool.false_ne_true, if_neg Bool.false_ne_true]
      exact ⟨mb, ag, ma, as, af, wr, ou, 1, _, _, my, rg, _, _, _, _, _, _, _, rfl, rfl, ⟨t1, t2, t3, t4, t5, t6, t7, t8, t9⟩, rfl, fun q => absurd q (by decide), rfl, rfl, hs, hs1, hs2, fun _ => hm, fun _ => ⟨rfl, rfl, rfl, rfl⟩⟩
  · simp only [if_neg c]
    rw [obind2_thr, obind2_thr, if_neg (show ¬ (16 : Nat) = 14 by decide), if_pos rfl]
    exact ⟨mb, ag, ma, as, af, wr, ou, 2, _, _, my, rg, _, _, _, _, _, _, _, rfl, rfl, ⟨t1, t2, t3, t4, t5, t6, t7, t8, t9⟩, rfl, fun q => absurd q (by decide), rfl, rfl, hs, hs1, hs2, fun q => absurd q c, fun _ => ⟨rfl, rfl, rfl, rfl⟩⟩
end FCD
