/-! VALID: the reference's tables and ends -/
section RTB
variable {fu g : Nat} {f : Nat → Int32} {r n L p1 q e lc : Int} {R F : SS} {N : Nat} {vo : KVo} {z : KVt} {x : Fr} {M1 : KM1} {Mp : KMp} {M3 : KM3} {Mj : KMj} {Ml : KMl} {M5 : KM5} {M6 : KM6} {lab : Nat → Int} {v : Int64}
set_option maxRecDepth 20000 in
theorem t1_end {n1 : Nat} {t : KMt} {x1 : KRf × KMc × Int} {c : KMc} {last k : Int} (h : x1.2.2 < k) : L18_Mo_validTable fu z vo t x1 (n1 + 1) r c last k = .ret (r, c, last, k) := by
  rw [L18_Mo_validTable.eq_2, if_pos h]
set_option maxRecDepth 20000 in
theorem t1_step {n1 k : Nat} {t : KMt} {x1 : KRf × KMc × Int} {c : KMc} {last : Int} (h : ¬ x1.2.2 < k) (hk : k ≤ 60) : L18_Mo_validTable fu z vo t x1 (n1 + 1) r c last k = obind2 (f_Mo_index fu r c t) (fun y => obind2 (f_Mo_label y.1 vo ((iI y.2.2).toInt64)) (fun u => L18_Mo_validTable fu z vo t x1 n1 u.1 y.2.1 u.2 ((k + 1 : Nat) : Int)) (fun u => .thr (u, y.2.1, z, vo))) (fun y => .thr (y.1, y.2, z, vo)) := by
  rw [L18_Mo_validTable.eq_2, if_neg h]
  simp only [if_pos (show R32 ((k : Int) + 1) by omega)]
  rfl
set_option maxRecDepth 20000 in
theorem t2_end {n1 : Nat} {t : KMt} {x1 : KRf × KMc × Int} {y7 : KRf × KMc × Int × Int} {c : KMc} {k : Int} (h : x1.2.2 < k) : L48_Mo_validTable fu z vo t x1 y7 (n1 + 1) r c k = .ret (r, c, k) := by
  rw [L48_Mo_validTable.eq_2, if_pos h]
set_option maxRecDepth 20000 in
theorem t2_step {n1 k : Nat} {t : KMt} {x1 : KRf × KMc × Int} {y7 : KRf × KMc × Int × Int} {c : KMc} (h : ¬ x1.2.2 < k) (hk : k ≤ 60) : L48_Mo_validTable fu z vo t x1 y7 (n1 + 1) r c k = obind2 (f_Mo_index fu r c t) (fun y => obind2 (f_Mo_label y.1 vo ((iI y.2.2).toInt64)) (fun u => if u.2 = y7.2.2.1 then L48_Mo_validTable fu z vo t x1 y7 n1 u.1 y.2.1 ((k + 1 : Nat) : Int) else .thr (2, y.2.1, z, vo)) (fun u => .thr (u, y.2.1, z, vo))) (fun y => .thr (y.1, y.2, z, vo)) := by
  rw [L48_Mo_validTable.eq_2, if_neg h]
  simp only [jp_ite]
  simp only [jp, vl_ite, if_pos (show R32 ((k : Int) + 1) by omega)]
  rfl
set_option maxRecDepth 20000 in
theorem i64_lab {a : Int} (h0 : 0 ≤ a) (h1 : a ≤ 2147483647) : ((iI a).toInt64).toInt = a := by rw [Int32.toInt_toInt64, iI_t (by omega)]
set_option maxRecDepth 20000 in
theorem t1_loop (hfu : 10 < fu) (hqL : q ≤ L) (hL : L ≤ 2000) (hV : VOk vo F) {nn : Nat} (hnn : nn ≤ 50) {x1 : KRf × KMc × Int} (hx : x1.2.2 = nn) : ∀ (m k l n1 : Nat) (p last : Int), k + m = nn + 1 → m < n1 → Lbl f lab m l p q → (∃ last', (∀ j, j < m → (labA F (lab (l + j))).isSome = true) ∧ (m = 0 → last' = last) ∧ (0 < m → labA F (lab (l + (m - 1))) = some last') ∧ L18_Mo_validTable fu z vo (KMt.mk f n) x1 n1 r (KMc.mk p L) last k = .ret (r, KMc.mk q L, last', ((nn + 1 : Nat) : Int))) ∨ (∃ j t, j < m ∧ labA F (lab (l + j)) = none ∧ L18_Mo_validTable fu z vo (KMt.mk f n) x1 n1 r (KMc.mk p L) last k = .thr t ∧ t.1 = 2) := by
  intro m
  induction m with
  | zero =>
    intro k l n1 p last hk hn hl
    obtain ⟨n1, rfl⟩ : ∃ q, n1 = q + 1 := ⟨n1 - 1, by omega⟩
    have : k = nn + 1 := by omega
    subst this
    rw [t1_end (by omega), show p = q from hl]
    exact Or.inl ⟨last, fun j hj => by omega, fun _ => rfl, fun h => by omega, rfl⟩
  | succ m ih =>
    intro k l n1 p last hk hn hl
    obtain ⟨n1, rfl⟩ : ∃ q, n1 = q + 1 := ⟨n1 - 1, by omega⟩
    obtain ⟨p2, i1, i2, i3, i4⟩ := hl
    have hp : p2 ≤ q := by
      clear ih
      have : ∀ (m l : Nat) (a : Int), Lbl f lab m l a q → a ≤ q := by
        intro m
        induction m with
        | zero => intro l a h; exact Int.le_of_eq h
        | succ m ih =>
          intro l a h
          obtain ⟨b, j1, _, _, j4⟩ := h
          have := ih _ _ j4
          have := j1.2.1
          omega
      exact this m (l + 1) p2 i4
    rw [t1_step (by omega) (by omega), i1.2.2 fu r n L (by omega) (by omega) hL, obind2_ret]
    dsimp only
    have e1 := i64_lab i2 i3
    rw [r_label hV (by rw [e1]; exact i2) (by rw [e1]; exact i3), e1]
    cases hlb : labA F (lab l) with
    | none =>
      dsimp only
      rw [obind2_thr]
      exact Or.inr ⟨0, _, by omega, hlb, rfl, rfl⟩
    | some lv =>
      dsimp only
      rw [obind2_ret]
      rcases ih (k + 1) (l + 1) n1 p2 lv (by omega) (by omega) i4 with ⟨last', h1, h2, h3, h4⟩ | ⟨j, t, h1, h2, h3, h4⟩
      · refine Or.inl ⟨last', fun j hj => ?_, fun h => by omega, fun _ => ?_, h4⟩
        · cases j with
          | zero => show (labA F (lab l)).isSome = true; rw [hlb]; rfl
          | succ j => have := h1 j (by omega); rw [show l + 1 + j = l + (j + 1) by omega] at this; exact this
        · by_cases hm : m = 0
          · subst hm
            rw [h2 rfl]
            show labA F (lab l) = some lv
            exact hlb
          · have := h3 (by omega)
            rw [show l + 1 + (m - 1) = l + (m + 1 - 1) by omega] at this
            exact this
      · exact Or.inr ⟨j + 1, t, by omega, by rw [show l + (j + 1) = l + 1 + j by omega]; exact h2, h3, h4⟩
set_option maxRecDepth 20000 in
theorem t2_loop (hfu : 10 < fu) (hqL : q ≤ L) (hL : L ≤ 2000) (hV : VOk vo F) {nn : Nat} (hnn : nn ≤ 50) {x1 : KRf × KMc × Int} (hx : x1.2.2 = nn) {y7 : KRf × KMc × Int × Int} {last : Int} (hy : y7.2.2.1 = last) : ∀ (m k l n1 : Nat) (p : Int), k + m = nn + 1 → m < n1 → Lbl f lab m l p q → (tabOk F lab last m l = true ∧ L48_Mo_validTable fu z vo (KMt.mk f n) x1 y7 n1 r (KMc.mk p L) k = .ret (r, KMc.mk q L, ((nn + 1 : Nat) : Int))) ∨ (tabOk F lab last m l = false ∧ ∃ t, L48_Mo_validTable fu z vo (KMt.mk f n) x1 y7 n1 r (KMc.mk p L) k = .thr t ∧ t.1 = 2) := by
  intro m
  induction m with
  | zero =>
    intro k l n1 p hk hn hl
    obtain ⟨n1, rfl⟩ : ∃ q, n1 = q + 1 := ⟨n1 - 1, by omega⟩
    have : k = nn + 1 := by omega
    subst this
    rw [t2_end (by omega), show p = q from hl]
    exact Or.inl ⟨rfl, rfl⟩
  | succ m ih =>
    intro k l n1 p hk hn hl
    obtain ⟨n1, rfl⟩ : ∃ q, n1 = q + 1 := ⟨n1 - 1, by omega⟩
    obtain ⟨p2, i1, i2, i3, i4⟩ := hl
    have hp : p2 ≤ q := by
      clear ih
      have : ∀ (m l : Nat) (a : Int), Lbl f lab m l a q → a ≤ q := by
        intro m
        induction m with
        | zero => intro l a h; exact Int.le_of_eq h
        | succ m ih =>
          intro l a h
          obtain ⟨b, j1, _, _, j4⟩ := h
          have := ih _ _ j4
          have := j1.2.1
          omega
      exact this m (l + 1) p2 i4
    rw [t2_step (by omega) (by omega), i1.2.2 fu r n L (by omega) (by omega) hL, obind2_ret]
    dsimp only
    have e1 := i64_lab i2 i3
    rw [r_label hV (by rw [e1]; exact i2) (by rw [e1]; exact i3), e1]
    unfold tabOk
    cases hlb : labA F (lab l) with
    | none =>
      dsimp only
      rw [obind2_thr]
      exact Or.inr ⟨rfl, _, rfl, rfl⟩
    | some lv =>
      dsimp only
      rw [obind2_ret]
      dsimp only
      rw [hy]
      by_cases c : lv = last
      · rw [if_pos c, c, decide_eq_true rfl, Bool.true_and]
        exact ih (k + 1) (l + 1) n1 p2 (by omega) (by omega) i4
      · rw [if_neg c, decide_eq_false (fun h => c (by cases h; rfl)), Bool.false_and]
        exact Or.inr ⟨rfl, _, rfl, rfl⟩
set_option maxRecDepth 20000 in
theorem tabOk_all {last : Int} : ∀ (m l : Nat), tabOk F lab last m l = true → ∀ j, j < m → labA F (lab (l + j)) = some last := by
  intro m
  induction m with
  | zero => intro l _ j hj; omega
  | succ m ih =>
    intro l h j hj
    unfold tabOk at h
    rw [Bool.and_eq_true] at h
    cases j with
    | zero => exact of_decide_eq_true h.1
    | succ j => have := ih (l + 1) h.2 j (by omega); rw [show l + 1 + j = l + (j + 1) by omega] at this; exact this
set_option maxRecDepth 20000 in
theorem r_c14 (hfu : 60 < fu) (hd : DecI f 14 v e lab lc p1 q) (hqL : q ≤ L) (hL : L ≤ 2000) (hV : VOk vo (x :: R)) (hT : ST z (x :: R)) (hn : tot (x :: R) ≤ N) (hN : N < 2000) : Rx r q L (fun t : KRf × KMc × KVt × KVo => t.1 = 2) vo.kinds (N + 1) (f_Mo_validStep fu r (KMc.mk p1 L) z vo (g : Int) (KMt.mk f n) M1 Mp M3 Mj Ml M5 M6 14) ((labA (x :: R) (lab (e.toNat + v.toInt.toNat))).bind (fun last => if tabOk (x :: R) lab last (v.toInt.toNat + 1) e.toNat = true then (popA 127 x).bind (fun y => (popO last y.2).map (fun z => loseA z :: R)) else none)) := by
  obtain ⟨nn, ll, q1, d1, d2, d3, d4, d5, d6⟩ := hd.2.2.1 rfl
  have ev : v.toInt = (nn : Int) := by rw [d3, Int32.toInt_toInt64, iI_t (by omega)]
  rw [ev, d4, Int.toNat_natCast, Int.toNat_natCast]
  have hq1 : q1 ≤ q := by
    have : ∀ (m l : Nat) (a : Int), Lbl f lab m l a q → a ≤ q := by
      intro m
      induction m with
      | zero => intro l a h; exact Int.le_of_eq h
      | succ m ih =>
        intro l a h
        obtain ⟨b, j1, _, _, j4⟩ := h
        have := ih _ _ j4
        have := j1.2.1
        omega
    exact this _ _ _ d6
  have e0 : f_Mo_validStep fu r (KMc.mk p1 L) z vo (g : Int) (KMt.mk f n) M1 Mp M3 Mj Ml M5 M6 14 = obind2 (f_Mo_validTable fu r (KMc.mk p1 L) z vo (KMt.mk f n)) (fun x => .ret (x.1, x.2.1, x.2.2.1, x.2.2.2)) (fun x => .thr (x.1, x.2.1, x.2.2.1, x.2.2.2)) := by
    unfold f_Mo_validStep
    simp only [jp, Int.reduceEq, reduceIte]
  rw [e0]
  unfold f_Mo_validTable
  rw [d1.2.2 fu r n L (by omega) (by omega) hL, obind2_ret]
  dsimp only
  have k1 := t1_loop (r := r) (z := z) (n := n) (F := x :: R) (show 10 < fu by omega) hqL hL hV d2 (x1 := (r, KMc.mk q1 L, (nn : Int))) rfl (nn + 1) 0 ll fu q1 0 (by omega) (by omega) d6
  rw [show ((0 : Nat) : Int) = 0 from rfl] at k1
  rcases k1 with ⟨last, h1, h2, h3, h4⟩ | ⟨j, t, h1, h2, h3, h4⟩
  · have hlast := h3 (by omega)
    rw [show nn + 1 - 1 = nn by omega] at hlast
    rw [h4, obind2_ret, hlast]
    dsimp only [Option.bind]
    have k2 := t2_loop (r := r) (z := z) (n := n) (F := x :: R) (show 10 < fu by omega) hqL hL hV d2 (x1 := (r, KMc.mk q1 L, (nn : Int))) rfl (y7 := (r, KMc.mk q L, last, ((nn + 1 : Nat) : Int))) rfl (nn + 1) 0 ll fu q1 (by omega) (by omega) d6
    rw [show ((0 : Nat) : Int) = 0 from rfl] at k2
    rcases k2 with ⟨g1, g2⟩ | ⟨g1, t, g2, g3⟩
    · rw [if_pos g1]
      rw [show KMc.mk (KMc.cursor (KMc.mk q1 L)) (KMc.limit (KMc.mk q L)) = KMc.mk q1 L from rfl, g2, obind2_ret]
      dsimp only
      have j3 : Ty0 last := by
        unfold labA at hlast
        cases eu : (x :: R)[(lab (ll + nn)).toNat]? with
        | none => rw [eu] at hlast; cases hlast
        | some u =>
          rw [eu] at hlast
          cases hlast
          exact (ROr.get _ _ _ eu hV.1).2.2
      rcases r_pop (r := r) (show Ty0 127 by decide) hV hT hn (by omega) with ⟨y, z', e1, e2, e3, e4, e5⟩ | ⟨t, e1, e2, e3⟩
      · rw [e1, e2, obind2_ret]
        dsimp only
        have hV' := hV.vs (popA_snd e1)
        rcases r_popO (r := r) j3 hV' e4 e5 (by omega) with ⟨w, z2, f1, f2, f3, f4⟩ | ⟨t, f1, f2, f3⟩
        · rw [f1, f2, obind2_ret]
          dsimp only
          obtain ⟨z3, vo3, g5, g6, g7, g8, g9⟩ := r_lose (hV'.vs (popO_snd f1)) f3 f4
          rw [g5, obind_ret, obind2_ret]
          exact Or.inl ⟨_, _, _, rfl, rfl, g6, g7, g8, (by show tot (loseA _ :: R) ≤ N + 1; omega)⟩
        · rw [f1, f2, obind2_thr, obind2_thr]; exact Rx.no f3
      · rw [e1, e2, obind2_thr, obind2_thr]; exact Rx.no e3
    · rw [if_neg (by rw [g1]; decide)]
      rw [show KMc.mk (KMc.cursor (KMc.mk q1 L)) (KMc.limit (KMc.mk q L)) = KMc.mk q1 L from rfl, g2, obind2_thr, obind2_thr]
      exact Rx.no g3
  · rw [h3, obind2_thr, obind2_thr]
    cases hl : labA (x :: R) (lab (ll + nn)) with
    | none => exact Rx.no h4
    | some last =>
      dsimp only [Option.bind]
      rw [if_neg (fun q => by have := tabOk_all _ _ q j h1; rw [h2] at this; cases this)]
      exact Rx.no h4
/-! the loop over a body -/
set_option maxRecDepth 20000 in
theorem vc_stop {n1 : Nat} {t : KMt} {c : KMc} (h : vo.depth ≤ 0) : L62_Mo_validCode fu t M1 Mp M3 Mj Ml M5 M6 (g : Int) (n1 + 1) r c z vo = .ret (r, c, z, vo) := by
  rw [L62_Mo_validCode.eq_2, if_pos h]
set_option maxRecDepth 20000 in
theorem vc_op {n1 : Nat} {b : Int} {p : Int} (h : 0 < vo.depth) (h0 : 0 ≤ p) (hp : p < L) (hL : L ≤ 2000) (hb : by8 (f p.toNat) = b) (hb2 : b ≠ 11) : L62_Mo_validCode fu (KMt.mk f n) M1 Mp M3 Mj Ml M5 M6 (g : Int) (n1 + 1) r (KMc.mk p L) z vo = obind2 (f_Mo_validStep fu r (KMc.mk (p + 1) L) z vo (g : Int) (KMt.mk f n) M1 Mp M3 Mj Ml M5 M6 b) (fun x => L62_Mo_validCode fu (KMt.mk f n) M1 Mp M3 Mj Ml M5 M6 (g : Int) n1 x.1 x.2.1 x.2.2.1 x.2.2.2) (fun x => .thr (x.1, x.2.1, x.2.2.1, x.2.2.2, KVf.mk (g : Int))) := by
  rw [L62_Mo_validCode.eq_2, if_neg (by omega), mo_one h0 hp hL, hb, obind2_ret]
  simp only [jp]
  rw [if_neg hb2]
set_option maxRecDepth 20000 in
theorem vc_endE {n1 : Nat} {p : Int} (h0 : 0 ≤ p) (hp : p < L) (hL : L ≤ 2000) (hb : by8 (f p.toNat) = 11) (hV : VOk vo (x :: R)) : L62_Mo_validCode fu (KMt.mk f n) M1 Mp M3 Mj Ml M5 M6 (g : Int) (n1 + 1) r (KMc.mk p L) z vo = obind2 (f_Mo_popOut r z vo x.2.2.2) (fun y => if y.2.top = (tot R : Int) ∧ (vo.kinds R.length = 4 → x.2.2.2 = 0) then obind (f_Mo_push y.2 x.2.2.2) (fun z2 => L62_Mo_validCode fu (KMt.mk f n) M1 Mp M3 Mj Ml M5 M6 (g : Int) n1 y.1 (KMc.mk (p + 1) L) z2 (KVo.mk vo.heights vo.labels vo.outs vo.kinds vo.lost (vo.depth - 1))) else .thr (2, KMc.mk (p + 1) L, y.2, vo, KVf.mk (g : Int))) (fun y => .thr (y.1, KMc.mk (p + 1) L, y.2, vo, KVf.mk (g : Int))) := by
  obtain ⟨⟨h1, h2, h3, h4, h5, h6, h7⟩, h8, h9⟩ := hV
  rw [List.length_cons] at h8 h9
  have e1 : (vo.depth - 1).toNat = R.length := by omega
  have hR : 0 ≤ vo.depth - 1 ∧ vo.depth - 1 < 102 := by omega
  rw [L62_Mo_validCode.eq_2, if_neg (by omega), mo_one h0 hp hL, hb, obind2_ret]
  simp only [jp, reduceIte, if_pos hR, if_pos (show R32 (vo.depth - 1) by omega), e1, h1, h4]
  congr 1; funext y
  by_cases c : y.2.top = (tot R : Int)
  · rw [if_pos c, mo_val, obind2_ret]
    by_cases c4 : vo.kinds R.length = 4
    · rw [if_pos c4]
      by_cases c0 : x.2.2.2 = 0
      · rw [if_pos c0, mo_val, obind2_ret, if_pos ⟨c, fun _ => c0⟩]
      · rw [if_neg c0, mo_valE, obind2_thr, if_neg (fun q => c0 (q.2 c4))]
    · rw [if_neg c4, mo_val, obind2_ret, if_pos ⟨c, fun q => absurd q c4⟩]
  · rw [if_neg c, mo_valE, obind2_thr, if_neg (fun q => c q.1)]
set_option maxRecDepth 20000 in
theorem vc_end {p : Int} (h0 : 0 ≤ p) (hp : p < L) (hL : L ≤ 2000) (hb : by8 (f p.toNat) = 11) (hV : VOk vo (x :: R)) (hT : ST z (x :: R)) (hn : tot (x :: R) ≤ N) (hN : N < 2000) :
    (∃ y z', popO x.2.2.2 x = some y ∧ y.1 = [] ∧ (vo.kinds R.length = 4 → x.2.2.2 = 0) ∧ (∀ n1, L62_Mo_validCode fu (KMt.mk f n) M1 Mp M3 Mj Ml M5 M6 (g : Int) (n1 + 1) r (KMc.mk p L) z vo = L62_Mo_validCode fu (KMt.mk f n) M1 Mp M3 Mj Ml M5 M6 (g : Int) n1 r (KMc.mk (p + 1) L) z' (KVo.mk vo.heights vo.labels vo.outs vo.kinds vo.lost (vo.depth - 1))) ∧ (∀ w R', R = w :: R' → ST z' (pushA x.2.2.2 w :: R') ∧ tot (pushA x.2.2.2 w :: R') ≤ N + 1)) ∨
    (¬ (∃ y, popO x.2.2.2 x = some y ∧ y.1 = [] ∧ (vo.kinds R.length = 4 → x.2.2.2 = 0)) ∧ ∀ n1, ∃ t, L62_Mo_validCode fu (KMt.mk f n) M1 Mp M3 Mj Ml M5 M6 (g : Int) (n1 + 1) r (KMc.mk p L) z vo = .thr t ∧ t.1 = 2) := by
  have h6 : Ty0 x.2.2.2 := hV.1.2.2.2.2.2.1
  have eq : ∀ n1, L62_Mo_validCode fu (KMt.mk f n) M1 Mp M3 Mj Ml M5 M6 (g : Int) (n1 + 1) r (KMc.mk p L) z vo = _ := fun n1 => vc_endE (n1 := n1) h0 hp hL hb hV
  rcases r_popO (r := r) h6 hV hT hn (by omega) with ⟨y, z', f1, f2, f3, f4⟩ | ⟨t, f1, f2, f3⟩
  · by_cases c : y.1 = []
    · have psh : ∃ z2, f_Mo_push z' x.2.2.2 = .ret z2 ∧ (∀ w R', R = w :: R' → ST z2 (pushA x.2.2.2 w :: R') ∧ tot (pushA x.2.2.2 w :: R') ≤ N + 1) := by
        cases R with
        | nil =>
          obtain ⟨z2, k1, _, _⟩ := r_push h6 f3 f4 hN
          exact ⟨z2, k1, fun w R' h => by cases h⟩
        | cons w R' =>
          have hT' : ST z' (w :: R') := by
            obtain ⟨a, b⟩ := f3
            have hfl : flat (y :: w :: R') = flat (w :: R') := by show y.1 ++ flat (w :: R') = _; rw [c]; rfl
            exact ⟨by rw [a]; unfold tot; rw [hfl], by rw [← hfl]; exact b⟩
          have hn' : tot (w :: R') ≤ N := by rw [tot_cons] at f4; omega
          obtain ⟨z2, k1, k2, k3⟩ := r_push h6 hT' hn' hN
          exact ⟨z2, k1, fun w' R'' h => by cases h; exact ⟨k2, k3⟩⟩
      obtain ⟨z2, k1, k2⟩ := psh
      by_cases c4 : vo.kinds R.length = 4 → x.2.2.2 = 0
      · refine Or.inl ⟨y, z2, f1, c, c4, fun n1 => ?_, k2⟩
        rw [eq n1, f2, obind2_ret, if_pos ⟨(nil_iffR f3).mpr c, c4⟩, k1, obind_ret]
      · refine Or.inr ⟨fun ⟨y', q1, q2, q3⟩ => c4 q3, fun n1 => ?_⟩
        rw [eq n1, f2, obind2_ret, if_neg (fun q => c4 q.2)]
        exact ⟨_, rfl, rfl⟩
    · refine Or.inr ⟨fun ⟨y', q1, q2, q3⟩ => c (by rw [f1] at q1; cases q1; exact q2), fun n1 => ?_⟩
      rw [eq n1, f2, obind2_ret, if_neg (fun q => c ((nil_iffR f3).mp q.1))]
      exact ⟨_, rfl, rfl⟩
  · refine Or.inr ⟨fun ⟨y', q1, _⟩ => (by rw [f1] at q1; cases q1), fun n1 => ?_⟩
    rw [eq n1, f2, obind2_thr]
    exact ⟨_, rfl, f3⟩
end RTB
