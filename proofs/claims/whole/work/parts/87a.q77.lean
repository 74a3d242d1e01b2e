/-! FACES: the tape, the counters -/
/-- tapes and counters of both -/
def TP (so : KSo) (wr : KWr) (mi : KMi) : Prop := (∀ k, k < 2000 → so.bytes k = mi.tape k ∧ -128 ≤ (mi.tape k).toInt ∧ (mi.tape k).toInt ≤ 127) ∧ wr.tapeLength = mi.taped ∧ 0 ≤ mi.taped ∧ mi.taped ≤ 2000 ∧ wr.argumentCount = mi.argumentCount ∧ 0 ≤ mi.argumentCount ∧ mi.argumentCount ≤ 8 ∧ wr.loaded = mi.there ∧ wr.reason = mi.reason
section FCA
variable {fu : Nat} {v : Int32}
set_option maxRecDepth 20000 in
theorem lp_four : ∀ (j n1 n2 : Nat) (so : KSo) (wr : KWr) (mi : KMi), TP so wr mi → mi.taped + j ≤ 2000 → j ≤ 4 → j < n1 → j < n2 → ∃ (so' : KSo) (wr' : KWr) (mi' : KMi), L3_WR_putInt fu v n1 so wr (8 * (j : Int) - 8) = .ret (so', wr', -8) ∧ L3_Mo_four fu v n2 mi (8 * (j : Int) - 8) = .ret (mi', -8) ∧ TP so' wr' mi' ∧ mi'.taped = mi.taped + j ∧ mi'.there = mi.there ∧ mi'.arguments = mi.arguments ∧ mi'.code = mi.code := by
  intro j
  induction j with
  | zero =>
    intro n1 n2 so wr mi h h1 _ h2 h3
    obtain ⟨n1, rfl⟩ : ∃ q, n1 = q + 1 := ⟨n1 - 1, by omega⟩
    obtain ⟨n2, rfl⟩ : ∃ q, n2 = q + 1 := ⟨n2 - 1, by omega⟩
    refine ⟨so, wr, mi, ?_, ?_, h, by omega, rfl, rfl, rfl⟩
    · rw [show 8 * ((0 : Nat) : Int) - 8 = -8 from rfl, L3_WR_putInt.eq_2, if_pos (by decide)]
    · rw [show 8 * ((0 : Nat) : Int) - 8 = -8 from rfl, L3_Mo_four.eq_2, if_pos (by decide)]
  | succ j ih =>
    intro n1 n2 so wr mi h h1 h4 h2 h3
    obtain ⟨n1, rfl⟩ : ∃ q, n1 = q + 1 := ⟨n1 - 1, by omega⟩
    obtain ⟨n2, rfl⟩ : ∃ q, n2 = q + 1 := ⟨n2 - 1, by omega⟩
    obtain ⟨t1, t2, t3, t4, t5, t6, t7, t8, t9⟩ := h
    have e1 : L3_WR_putInt fu v (n1 + 1) so wr (8 * ((j + 1 : Nat) : Int) - 8) = L3_WR_putInt fu v n1 (KSo.mk so.at_ so.limit so.failed (upd so.bytes mi.taped.toNat ((v >>> ((iI (8 * ((j + 1 : Nat) : Int) - 8)) &&& 31)).toInt8.toInt32))) (KWr.mk (mi.taped + 1) wr.argumentCount wr.loaded wr.reason) (8 * (j : Int) - 8) := by
      rw [L3_WR_putInt.eq_2, if_neg (by omega), t2, if_pos (by omega), if_pos (by omega), if_pos (by omega), show 8 * ((j + 1 : Nat) : Int) - 8 + -8 = 8 * (j : Int) - 8 by omega]
    have e2 : L3_Mo_four fu v (n2 + 1) mi (8 * ((j + 1 : Nat) : Int) - 8) = L3_Mo_four fu v n2 (KMi.mk (upd mi.tape mi.taped.toNat ((v >>> ((iI (8 * ((j + 1 : Nat) : Int) - 8)) &&& 31)).toInt8.toInt32)) (mi.taped + 1) mi.there mi.reason mi.arguments mi.argumentCount mi.code) (8 * (j : Int) - 8) := by
      rw [L3_Mo_four.eq_2, if_neg (by omega), if_pos (by omega), if_pos (by omega), if_pos (by omega), show 8 * ((j + 1 : Nat) : Int) - 8 + -8 = 8 * (j : Int) - 8 by omega]
    generalize (v >>> ((iI (8 * ((j + 1 : Nat) : Int) - 8)) &&& 31)).toInt8 = B at e1 e2
    have hst : ∀ k, k < 2000 → upd so.bytes mi.taped.toNat B.toInt32 k = upd mi.tape mi.taped.toNat B.toInt32 k ∧ -128 ≤ (upd mi.tape mi.taped.toNat B.toInt32 k).toInt ∧ (upd mi.tape mi.taped.toNat B.toInt32 k).toInt ≤ 127 := fun k hk => by
      by_cases c : k = mi.taped.toNat
      · rw [show upd so.bytes mi.taped.toNat B.toInt32 k = B.toInt32 from if_pos c, show upd mi.tape mi.taped.toNat B.toInt32 k = B.toInt32 from if_pos c, Int8.toInt_toInt32]
        have h3 := Int8.le_toInt B
        have h4 := Int8.toInt_lt B
        exact ⟨rfl, by omega, by omega⟩
      · rw [show upd so.bytes mi.taped.toNat B.toInt32 k = so.bytes k from if_neg c, show upd mi.tape mi.taped.toNat B.toInt32 k = mi.tape k from if_neg c]
        exact t1 k hk
    obtain ⟨so', wr', mi', k1, k2, k3, k4, k5, k6, k7⟩ := ih n1 n2 (KSo.mk so.at_ so.limit so.failed (upd so.bytes mi.taped.toNat B.toInt32)) (KWr.mk (mi.taped + 1) wr.argumentCount wr.loaded wr.reason) (KMi.mk (upd mi.tape mi.taped.toNat B.toInt32) (mi.taped + 1) mi.there mi.reason mi.arguments mi.argumentCount mi.code) ⟨hst, rfl, by show 0 ≤ mi.taped + 1; omega, by show mi.taped + 1 ≤ 2000; omega, t5, t6, t7, t8, t9⟩ (by show mi.taped + 1 + (j : Int) ≤ 2000; omega) (by omega) (by omega) (by omega)
    exact ⟨so', wr', mi', e1.trans k1, e2.trans k2, k3, by rw [k4]; show mi.taped + 1 + (j : Int) = _; omega, k5, k6, k7⟩
set_option maxRecDepth 20000 in
theorem p_four {so : KSo} {wr : KWr} {mi : KMi} (hfu : 100 < fu) (h : TP so wr mi) (hl : mi.taped + 4 ≤ 2000) (v : Int32) : ∃ (so' : KSo) (wr' : KWr) (mi' : KMi), f_WR_putInt fu so wr v = .ret (so', wr') ∧ f_Mo_four fu mi v = .ret mi' ∧ TP so' wr' mi' ∧ mi'.taped = mi.taped + 4 ∧ mi'.there = mi.there ∧ mi'.arguments = mi.arguments ∧ mi'.code = mi.code := by
  obtain ⟨so', wr', mi', k1, k2, k3, k4, k5, k6, k7⟩ := lp_four (fu := fu) (v := v) 4 fu fu so wr mi h (by omega) (by omega) (by omega) (by omega)
  rw [show 8 * ((4 : Nat) : Int) - 8 = 24 from rfl] at k1 k2
  exact ⟨so', wr', mi', by unfold f_WR_putInt; rw [k1, obind_ret], by unfold f_Mo_four; rw [k2, obind_ret], k3, k4, k5, k6, k7⟩
set_option maxRecDepth 20000 in
theorem mo_good {mi : KMi} {y : Bool} {c : Int} : f_Mo_good mi y c = .ret (KMi.mk mi.tape mi.taped mi.there mi.reason mi.arguments mi.argumentCount (if y = true then 0 else c), y) := by
  unfold f_Mo_good
  simp only [jp]
  cases y
  · rw [if_neg Bool.false_ne_true, if_neg Bool.false_ne_true]
  · rw [if_pos rfl, if_pos rfl]
set_option maxRecDepth 20000 in
theorem o_0 {ou : KOu} {x : Int64} : (KOu.mk (vp_updL ou.out_ (0 : Int).toNat x)).out_ 0 = x := updL_s _ _ _
set_option maxRecDepth 20000 in
theorem p_feed {so : KSo} {wr : KWr} {mi : KMi} {ou : KOu} (hfu : 100 < fu) (h : TP so wr mi) (a b c d e : Int32) : ∃ (so' : KSo) (wr' : KWr) (ou' : KOu) (mi' : KMi) (k x : Int), f_La_feed fu so wr ou a b c d e = .ret (so', wr', ou', k) ∧ f_Mo_feed fu mi a b c d e = .ret (mi', x) ∧ TP so' wr' mi' ∧ mi'.code = k ∧ (k = 0 → ou'.out_ 0 = (iI x).toInt64) ∧ mi'.there = mi.there ∧ mi'.arguments = mi.arguments := by
  have h' := h
  obtain ⟨t1, t2, t3, t4, t5, t6, t7, t8, t9⟩ := h
  unfold f_La_feed f_WR_feed f_Mo_feed
  rw [t2, if_pos (show R32 (mi.taped + 20) by omega), if_pos (show R32 (mi.taped + 20) by omega)]
  simp only [jp]
  by_cases cl : mi.taped + 20 ≤ 2000
  · rw [if_pos cl, if_neg (show ¬ 2000 < mi.taped + 20 by omega), mo_good, obind_ret]
    dsimp only
    rw [if_pos rfl, if_pos rfl]
    have h0 : TP so wr (KMi.mk mi.tape mi.taped mi.there mi.reason mi.arguments mi.argumentCount 0) := h'
    obtain ⟨s1, w1, m1, a1, a2, a3, a4, a5, a6, a7⟩ := p_four hfu h0 (by show mi.taped + 4 ≤ 2000; omega) a
    have l1 : m1.taped = mi.taped + 4 := a4
    obtain ⟨s2, w2, m2, b1, b2, b3, b4, b5, b6, b7⟩ := p_four hfu a3 (by omega) b
    obtain ⟨s3, w3, m3, c1, c2, c3, c4, c5, c6, c7⟩ := p_four hfu b3 (by omega) c
    obtain ⟨s4, w4, m4, d1, d2, d3, d4, d5, d6, d7⟩ := p_four hfu c3 (by omega) d
    obtain ⟨s5, w5, m5, e1, e2, e3, e4, e5, e6, e7⟩ := p_four hfu d3 (by omega) e
    rw [a1, obind_ret, b1, obind_ret, c1, obind_ret, d1, obind_ret, e1, obind_ret, obind2_ret, if_pos (by decide), a2, obind_ret, b2, obind_ret, c2, obind_ret, d2, obind_ret, e2, obind_ret]
    refine ⟨s5, w5, _, m5, 0, m5.taped, rfl, rfl, e3, by rw [e7, d7, c7, b7, a7], fun _ => ?_, by rw [e5, d5, c5, b5, a5], by rw [e6, d6, c6, b6, a6]⟩
    rw [o_0]
    show (iI w5.tapeLength).toInt64 = _
    rw [e3.2.1]
  · rw [if_neg cl, if_pos (show 2000 < mi.taped + 20 by omega), mo_good, obind_ret, obind2_thr]
    dsimp only
    rw [if_neg Bool.false_ne_true, if_neg Bool.false_ne_true, if_pos rfl]
    exact ⟨so, wr, ou, _, 1, 0, rfl, rfl, ⟨t1, t2, t3, t4, t5, t6, t7, t8, t9⟩, rfl, fun q => absurd q (by decide), rfl, rfl⟩
set_option maxRecDepth 20000 in
theorem p_end {so : KSo} {wr : KWr} {mi : KMi} {ou : KOu} (h : TP so wr mi) (n : Int) : ∃ (wr' : KWr) (ou' : KOu) (mi' : KMi) (k x : Int), f_La_end wr ou n = .ret (wr', ou', k) ∧ f_Mo_end mi n = .ret (mi', x) ∧ TP so wr' mi' ∧ mi'.code = k ∧ (k = 0 → ou'.out_ 0 = (iI x).toInt64) ∧ mi'.there = mi.there ∧ mi'.arguments = mi.arguments := by
  obtain ⟨t1, t2, t3, t4, t5, t6, t7, t8, t9⟩ := h
  unfold f_La_end f_WR_end f_Mo_end
  simp only [jp]
  rw [t2]
  by_cases c1 : n < 0
  · rw [if_pos c1, if_pos c1, obind2_thr, mo_good, obind_ret]
    dsimp only
    rw [if_neg Bool.false_ne_true, if_neg Bool.false_ne_true, if_pos rfl]
    exact ⟨wr, ou, _, 1, 0, rfl, rfl, ⟨t1, t2, t3, t4, t5, t6, t7, t8, t9⟩, rfl, fun q => absurd q (by decide), rfl, rfl⟩
  · rw [if_neg c1, if_neg c1]
    by_cases c2 : n ≤ mi.taped
    · rw [if_pos c2, if_neg (show ¬ mi.taped < n by omega), obind2_ret, if_pos (by decide), mo_good, obind_ret]
      dsimp only
      rw [if_pos rfl, if_pos rfl]
      exact ⟨_, _, _, 0, n, rfl, rfl, ⟨t1, rfl, by show 0 ≤ n; omega, by show n ≤ 2000; omega, t5, t6, t7, t8, t9⟩, rfl, fun _ => o_0, rfl, rfl⟩
    · rw [if_neg c2, if_pos (show mi.taped < n by omega), obind2_thr, mo_good, obind_ret]
      dsimp only
      rw [if_neg Bool.false_ne_true, if_neg Bool.false_ne_true, if_pos rfl]
      exact ⟨wr, ou, _, 1, 0, rfl, rfl, ⟨t1, t2, t3, t4, t5, t6, t7, t8, t9⟩, rfl, fun q => absurd q (by decide), rfl, rfl⟩
set_option maxRecDepth 20000 in
theorem p_argument {so : KSo} {wr : KWr} {mi : KMi} {ou : KOu} {ar : KAr} (h : TP so wr mi) (ha : ∀ k, k < 8 → ar.arguments k = mi.arguments k) (x : Int64) : ∃ (ar' : KAr) (wr' : KWr) (ou' : KOu) (mi' : KMi) (k y : Int), f_La_argument ar wr ou x = .ret (ar', wr', ou', k) ∧ f_Mo_argument mi x = .ret (mi', y) ∧ TP so wr' mi' ∧ mi'.code = k ∧ (k = 0 → ou'.out_ 0 = (iI y).toInt64) ∧ mi'.there = mi.there ∧ (∀ k, k < 8 → ar'.arguments k = mi'.arguments k) := by
  obtain ⟨t1, t2, t3, t4, t5, t6, t7, t8, t9⟩ := h
  unfold f_La_argument f_WR_argument f_Mo_argument
  simp only [jp]
  rw [t5]
  by_cases c : mi.argumentCount < 8
  · rw [if_pos c, if_neg (show ¬ 8 ≤ mi.argumentCount by omega), if_pos (show 0 ≤ mi.argumentCount ∧ mi.argumentCount < 8 by omega), if_pos (show R32 (mi.argumentCount + 1) by omega), obind2_ret, if_pos (by decide), mo_good, obind_ret]
    dsimp only
    rw [if_pos rfl, if_pos rfl, if_pos (show 0 ≤ mi.argumentCount ∧ mi.argumentCount < 8 by omega), if_pos (show R32 (mi.argumentCount + 1) by omega)]
    refine ⟨_, _, _, _, 0, _, rfl, rfl, ⟨t1, t2, t3, t4, rfl, by show 0 ≤ mi.argumentCount + 1; omega, by show mi.argumentCount + 1 ≤ 8; omega, t8, t9⟩, rfl, fun _ => o_0, rfl, fun k hk => ?_⟩
    show vp_updL ar.arguments mi.argumentCount.toNat x k = vp_updL mi.arguments mi.argumentCount.toNat x k
    by_cases q : k = mi.argumentCount.toNat
    · rw [q, updL_s, updL_s]
    · rw [updL_n q, updL_n q]; exact ha k hk
  · rw [if_neg c, if_pos (show 8 ≤ mi.argumentCount by omega), obind2_thr, mo_good, obind_ret]
    dsimp only
    rw [if_neg Bool.false_ne_true, if_neg Bool.false_ne_true, if_pos rfl]
    exact ⟨ar, wr, ou, _, 1, 0, rfl, rfl, ⟨t1, t2, t3, t4, t5, t6, t7, t8, t9⟩, rfl, fun q => absurd q (by decide), rfl, ha⟩
end FCA
