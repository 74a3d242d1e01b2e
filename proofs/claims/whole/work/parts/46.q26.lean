/-! THE WHOLE TAPE -/
set_option maxRecDepth 20000 in
theorem Sm.dead {τ A B : Type} {a L : Int} {f : Nat → Int32} {T : τ → Prop} {D : B → Prop} {t : τ} {G : Out Empty (KSo × B)} {V : Int → A → B → Prop} (ht : T t) (hg : ∃ q y, G = .ret (KSo.mk q L true f, y) ∧ a ≤ q ∧ q ≤ L ∧ D y) : Sm a L f T D (.thr t : Out τ A) G V := by
  obtain ⟨q, y, e, h1, h2, h3⟩ := hg
  exact Or.inr ⟨t, q, y, rfl, ht, e, h1, h2, h3⟩
section RDS
variable {fu : Nat} {f : Nat → Int32} {a L r : Int}
set_option maxRecDepth 20000 in
theorem cus_bad {q : Int} (e : f_So_unsigned fu (KSo.mk a L false f) 4294967295 = .ret (KSo.mk q L true f, 0)) (h0 : 0 ≤ q) (h1 : q ≤ L) (hL : L ≤ 2000) : f_Rd_readCustom fu (KSo.mk a L false f) = .ret (KSo.mk L L true f) := by
  have hr : R32 (L - q) := by omega
  have hl : f_So_left (KSo.mk q L true f) = .ret (L - q) := by unfold f_So_left; rw [if_pos (show R32 ((KSo.mk q L true f).limit - (KSo.mk q L true f).at_) from hr)]
  unfold f_Rd_readCustom
  rw [e, obind_ret, hl, obind_ret]
  simp only [jp]
  rw [if_pos (by rw [Int32.toInt_toInt64, iI_t hr]; show (0 : Int64).toInt ≤ _; rw [show (0 : Int64).toInt = 0 by decide]; omega)]
  rfl
set_option maxRecDepth 20000 in
/-- behind the size of a section, once the class has failed -/
theorem secW_D (hfu : 2100 < fu) {L1 : Int} (h0 : 0 ≤ a) (h1 : a ≤ L1) (hL : L1 ≤ L) (hL2 : L ≤ 2000) {c : CSt} {id : Int} : ∃ q y, obind (secB fu (KSo.mk a L1 true f) c id) (fun y => obind (f_So_widen y.1 L) (fun w => (.ret (w, y.2) : Out Empty (KSo × CSt)))) = .ret (KSo.mk q L true f, y) ∧ a ≤ q ∧ q ≤ L := by
  obtain ⟨q, y, e, h2, h3⟩ := secB_D (fu := fu) (f := f) hfu h0 h1 (by omega) (c := c) (id := id)
  rw [e, obind_ret, widT, obind_ret]
  exact ⟨q, y, rfl, h2, by omega⟩
set_option maxRecDepth 20000 in
theorem sec_D (hfu : 2100 < fu) (h0 : 0 ≤ a) (h1 : a ≤ L) (hL : L ≤ 2000) {c : CSt} {id : Int} : ∃ q y, f_Rd_readSection fu (KSo.mk a L true f) c.1 c.2.1 c.2.2.1 c.2.2.2.1 c.2.2.2.2.1 c.2.2.2.2.2.1 c.2.2.2.2.2.2.1 c.2.2.2.2.2.2.2.1 c.2.2.2.2.2.2.2.2.1 c.2.2.2.2.2.2.2.2.2 id = .ret (KSo.mk q L true f, y) ∧ a ≤ q ∧ q ≤ L := by
  rw [sec_eq, nar_D (by omega) h0 h1 hL, obind_ret]
  exact secW_D hfu h0 (Int.le_refl _) h1 hL
set_option maxRecDepth 20000 in
theorem rs_stop {b : Bool} (h : b = true ∨ L ≤ a) {c : CSt} {last k : Int} {n2 : Nat} : L63_Rd_reads fu (n2 + 1) (KSo.mk a L b f) c.1 c.2.1 c.2.2.1 c.2.2.2.1 c.2.2.2.2.1 c.2.2.2.2.2.1 c.2.2.2.2.2.2.1 c.2.2.2.2.2.2.2.1 c.2.2.2.2.2.2.2.2.1 c.2.2.2.2.2.2.2.2.2 last k = .ret (KSo.mk a L b f, c.1, c.2.1, c.2.2.1, c.2.2.2.1, c.2.2.2.2.1, c.2.2.2.2.2.1, c.2.2.2.2.2.2.1, c.2.2.2.2.2.2.2.1, c.2.2.2.2.2.2.2.2.1, c.2.2.2.2.2.2.2.2.2, last, k) := by
  rw [L63_Rd_reads.eq_2]
  by_cases h2 : 2000 ≤ k
  · rw [if_pos h2]
  · rw [if_neg h2, so_more, decide_eq_false (by rintro ⟨p, q⟩; rcases h with h | h; exact absurd (p.symm.trans h) (by decide); omega), obind_ret, if_neg (by decide)]
set_option maxRecDepth 20000 in
theorem rs_step (h0 : 0 ≤ a) (h1 : a < L) (hL : L ≤ 2000) {c : CSt} {last : Int} {k n2 : Nat} (hk : k < 2000) {id : Int} (hb : by8 (f a.toNat) = id) : L63_Rd_reads fu (n2 + 1) (KSo.mk a L false f) c.1 c.2.1 c.2.2.1 c.2.2.2.1 c.2.2.2.2.1 c.2.2.2.2.2.1 c.2.2.2.2.2.2.1 c.2.2.2.2.2.2.2.1 c.2.2.2.2.2.2.2.2.1 c.2.2.2.2.2.2.2.2.2 last k = obind (f_Rd_readSection fu (KSo.mk (a + 1) L (if id = 0 ∨ last < id then false else true) f) c.1 c.2.1 c.2.2.1 c.2.2.2.1 c.2.2.2.2.1 c.2.2.2.2.2.1 c.2.2.2.2.2.2.1 c.2.2.2.2.2.2.2.1 c.2.2.2.2.2.2.2.2.1 c.2.2.2.2.2.2.2.2.2 id) (fun x => L63_Rd_reads fu n2 x.1 x.2.1 x.2.2.1 x.2.2.2.1 x.2.2.2.2.1 x.2.2.2.2.2.1 x.2.2.2.2.2.2.1 x.2.2.2.2.2.2.2.1 x.2.2.2.2.2.2.2.2.1 x.2.2.2.2.2.2.2.2.2.1 x.2.2.2.2.2.2.2.2.2.2 (mxZ id last) ((k + 1 : Nat) : Int)) := by
  rw [L63_Rd_reads.eq_2, if_neg (by omega), so_more, decide_eq_true ⟨rfl, h1⟩, obind_ret, if_pos rfl, so_oct h0 h1 hL, hb, obind_ret]
  simp only [jp, if_pos (show R32 ((k : Int) + 1) by omega)]
  by_cases c0 : id = 0
  · rw [if_pos c0, if_pos (Or.inl c0)]; rfl
  · rw [if_neg c0]
    by_cases c1 : last < id
    · rw [if_pos c1, if_pos (Or.inr c1)]; rfl
    · rw [if_neg c1, if_neg (by rintro (q | q); exact c0 q; exact c1 q), so_failM, obind_ret]; rfl
set_option maxRecDepth 20000 in
theorem rs_dead (hfu : 2100 < fu) (h0 : 0 ≤ a) (h1 : a ≤ L) (hL : L ≤ 2000) {c : CSt} {id last k : Int} {n2 : Nat} {b : Bool} (hs : ∃ q y, f_Rd_readSection fu (KSo.mk a L b f) c.1 c.2.1 c.2.2.1 c.2.2.2.1 c.2.2.2.2.1 c.2.2.2.2.2.1 c.2.2.2.2.2.2.1 c.2.2.2.2.2.2.2.1 c.2.2.2.2.2.2.2.2.1 c.2.2.2.2.2.2.2.2.2 id = .ret (KSo.mk q L true f, y) ∧ a ≤ q ∧ q ≤ L) : ∃ q y, obind (f_Rd_readSection fu (KSo.mk a L b f) c.1 c.2.1 c.2.2.1 c.2.2.2.1 c.2.2.2.2.1 c.2.2.2.2.2.1 c.2.2.2.2.2.2.1 c.2.2.2.2.2.2.2.1 c.2.2.2.2.2.2.2.2.1 c.2.2.2.2.2.2.2.2.2 id) (fun x => L63_Rd_reads fu (n2 + 1) x.1 x.2.1 x.2.2.1 x.2.2.2.1 x.2.2.2.2.1 x.2.2.2.2.2.1 x.2.2.2.2.2.2.1 x.2.2.2.2.2.2.2.1 x.2.2.2.2.2.2.2.2.1 x.2.2.2.2.2.2.2.2.2.1 x.2.2.2.2.2.2.2.2.2.2 last k) = .ret (KSo.mk q L true f, y) ∧ a - 1 ≤ q ∧ q ≤ L ∧ True := by
  obtain ⟨q, y, e, h2, h3⟩ := hs
  rw [e, obind_ret]
  refine ⟨q, _, rs_stop (c := y) (Or.inl rfl), by omega, h3, trivial⟩
set_option maxRecDepth 20000 in
theorem lp_secs (hB : BB f) (hfu : 2100 < fu) (hL : L ≤ 2000) : ∀ (j k : Nat) (a l0 last : Int) (c : CSt) (m : MSt) (n1 n2 : Nat), L - a ≤ j → 0 ≤ a → a ≤ L → (k : Int) ≤ a → 0 ≤ last → j < n1 → j + 1 < n2 → RdR f last a c m →
    Sm a L f (fun t => t.1 = 1) (fun _ => True) (L102_Mo_readModule fu (KMt.mk f L) n1 r (KMc.mk a l0) m.1 m.2.1 m.2.2.1 m.2.2.2.1 m.2.2.2.2.1 m.2.2.2.2.2.1 m.2.2.2.2.2.2.1 m.2.2.2.2.2.2.2.1 m.2.2.2.2.2.2.2.2.1 m.2.2.2.2.2.2.2.2.2 last) (L63_Rd_reads fu n2 (KSo.mk a L false f) c.1 c.2.1 c.2.2.1 c.2.2.2.1 c.2.2.2.2.1 c.2.2.2.2.2.1 c.2.2.2.2.2.2.1 c.2.2.2.2.2.2.2.1 c.2.2.2.2.2.2.2.2.1 c.2.2.2.2.2.2.2.2.2 last k)
      (fun q x y => ∃ (c' : CSt) (m' : MSt) (l' last' k' : Int), q = L ∧ x = (r, KMc.mk L l', m'.1, m'.2.1, m'.2.2.1, m'.2.2.2.1, m'.2.2.2.2.1, m'.2.2.2.2.2.1, m'.2.2.2.2.2.2.1, m'.2.2.2.2.2.2.2.1, m'.2.2.2.2.2.2.2.2.1, m'.2.2.2.2.2.2.2.2.2, last') ∧ y = (c'.1, c'.2.1, c'.2.2.1, c'.2.2.2.1, c'.2.2.2.2.1, c'.2.2.2.2.2.1, c'.2.2.2.2.2.2.1, c'.2.2.2.2.2.2.2.1, c'.2.2.2.2.2.2.2.2.1, c'.2.2.2.2.2.2.2.2.2, last', k') ∧ RdR f last' L c' m') := by
  intro j
  induction j with
  | zero =>
    intro k a l0 last c m n1 n2 hj h0 h1 hk hl hn1 hn2 hR
    obtain ⟨n1, rfl⟩ : ∃ q, n1 = q + 1 := ⟨n1 - 1, by omega⟩
    obtain ⟨n2, rfl⟩ : ∃ q, n2 = q + 1 := ⟨n2 - 1, by omega⟩
    obtain rfl : a = L := by omega
    rw [rs_stop (Or.inr (Int.le_refl _)), L102_Mo_readModule.eq_2, if_pos (show (KMt.mk f a).length ≤ (KMc.mk a l0).cursor from Int.le_refl _)]
    exact Sm.ret h1 ⟨c, m, l0, last, k, rfl, rfl, rfl, hR⟩
  | succ j ih =>
    intro k a l0 last c m n1 n2 hj h0 h1 hk hl hn1 hn2 hR
    obtain ⟨n1, rfl⟩ : ∃ q, n1 = q + 1 := ⟨n1 - 1, by omega⟩
    obtain ⟨n2, rfl⟩ : ∃ q, n2 = q + 1 + 1 := ⟨n2 - 2, by omega⟩
    by_cases hlt : L ≤ a
    · obtain rfl : a = L := by omega
      rw [rs_stop (Or.inr (Int.le_refl _)), L102_Mo_readModule.eq_2, if_pos (show (KMt.mk f a).length ≤ (KMc.mk a l0).cursor from Int.le_refl _)]
      exact Sm.ret h1 ⟨c, m, l0, last, k, rfl, rfl, rfl, hR⟩
    have hb := by8_ge (f a.toNat)
    rw [L102_Mo_readModule.eq_2, if_neg (show ¬ (KMt.mk f L).length ≤ (KMc.mk a l0).cursor from hlt)]
    rw [show KMc.mk (KMc.mk a l0).cursor (KMt.mk f L).length = KMc.mk a L from rfl, mo_one h0 (by omega) hL, obind2_ret]
    generalize hid : by8 (f a.toNat) = id at hb
    rw [rs_step h0 (by omega) hL (by omega) hid]
    simp only [jp_ite]
    simp only [jp, rd_ite, rd_ite']
    rcases pr_cnt (fu := fu) (f := f) (a := a + 1) (L := L) (r := r) (n := L) (by omega) (by omega) (by omega) hL with ⟨q, w, w', e1, e2, e3, e4, rfl, e5⟩ | ⟨cc, q, v, e1, e2, e3, e4, rfl⟩
    · have hw : w.toInt = (uL w : Int) := uL_toInt (by omega)
      rw [e1, obind2_ret]
      dsimp only
      rw [if_pos (show R32 (L - q) by omega)]
      have hlt2 : ((iI (L - q)).toInt64).toInt < w.toInt ↔ L - q < uL w := by rw [Int32.toInt_toInt64, iI_t (by omega), hw]
      by_cases cf : (uL w : Int) ≤ L - q
      · have eE : (iI q + w.toInt32).toInt = q + uL w := by
          have e2 : w.toInt32 = iI (uL w) := by
            apply Int32.toInt_inj.mp
            rw [uL_i32 (by omega), iI_t (by omega)]
          rw [e2, iI_add, iI_t (by omega)]
        rw [if_neg (fun h => absurd (hlt2.mp h) (by omega))]
        have eE' : (iI (KMc.mk q L).cursor + w.toInt32).toInt = q + uL w := eE
        simp only [eE']
        generalize hL' : q + (uL w : Int) = L'
        have hLL : L' ≤ L := by omega
        by_cases c0 : id = 0
        · rw [if_pos c0, if_pos (Or.inl c0), sec_eq, nar_ok e2 (by omega) e4 hL e5, if_pos cf, obind_ret, hL']
          have esB : ∀ z, secB fu z c id = obind (f_Rd_readCustom fu z) (fun x => .ret (x, c)) := fun z => by unfold secB; rw [if_pos c0]
          dsimp only
          rw [esB]
          rcases pr_cnt (fu := fu) (f := f) (a := q) (L := L') (r := r) (n := L) (by omega) (by omega) (by omega) (by omega) with ⟨q2, w2, w2', g1, g2, g3, g4, rfl, g5⟩ | ⟨cc, q2, v, g1, g2, g3, g4, rfl⟩
          · have hw2 : w2.toInt = (uL w2 : Int) := uL_toInt (by omega)
            have hlt3 : ((iI (L' - q2)).toInt64).toInt < w2.toInt ↔ L' - q2 < uL w2 := by rw [Int32.toInt_toInt64, iI_t (by omega), hw2]
            rw [g1, obind2_ret, cus_ok g2 (by omega) g4 (by omega) g5]
            dsimp only
            rw [if_pos (show R32 (L' - q2) by omega)]
            by_cases ch : (uL w2 : Int) ≤ L' - q2
            · rw [if_neg (fun h => absurd (hlt3.mp h) (by omega)), if_pos ch, obind_ret, obind_ret, wid, if_pos rfl, obind_ret, obind_ret]
              have := ih (k + 1) L' L' last c m n1 (n2 + 1) (by omega) (by omega) hLL (by omega) hl (by omega) (by omega) (hR.up (by omega) (Int.le_refl _))
              rw [show mxZ id last = last by unfold mxZ; rw [c0]; by_cases hh : (0 : Int) < last; rw [if_pos hh]; rw [if_neg hh]; omega]
              exact this.low (by omega)
            · rw [if_pos (hlt3.mpr (by omega)), if_neg ch, obind_ret, obind_ret, widT, obind_ret, obind_ret]
              exact Sm.dead rfl ⟨L', _, rs_stop (c := c) (Or.inl rfl), by omega, hLL, trivial⟩
          · rw [g1, obind2_thr, cus_bad g2 (by omega) g4 (by omega), obind_ret, obind_ret, widT, obind_ret, obind_ret]
            exact Sm.dead rfl ⟨L', _, rs_stop (c := c) (Or.inl rfl), by omega, hLL, trivial⟩
        · rw [if_neg c0]
          by_cases cl : last < id
          · rw [if_neg (show ¬ id ≤ last by omega), if_pos (Or.inr cl), sec_eq, nar_ok e2 (by omega) e4 hL e5, if_pos cf, obind_ret, hL']
            simp only [obind_as, obind_ret]
            refine (Sm.bindW (a := q) hLL (sec_body (n := L) (m := m) hB hfu (by omega) (by omega) (by omega) c0 cl (hR.up (show a ≤ q by omega) (Int.le_refl _))) ?_ (fun t ht => ⟨_, rfl, ht⟩) ?_).low (by omega)
            · rintro q2 x y g1 g2 ⟨m', rfl, g3⟩
              dsimp only
              rw [wid]
              by_cases ce : q2 = L'
              · subst ce
                rw [if_pos rfl, if_pos rfl, obind_ret]
                have := ih (k + 1) q2 q2 id y m' n1 (n2 + 1) (by omega) (by omega) hLL (by omega) (by omega) (by omega) (by omega) g3
                rw [show mxZ id last = id by unfold mxZ; rw [if_neg (by omega)]]
                exact this
              · rw [if_neg ce, if_neg ce, obind_ret]
                exact Sm.dead rfl ⟨q2, _, rs_stop (c := y) (Or.inl rfl), Int.le_refl _, by omega, trivial⟩
            · intro q2 y g1 g2 _
              dsimp only
              rw [widT, obind_ret]
              exact ⟨_, rs_stop (c := y) (Or.inl rfl), trivial⟩
          · rw [if_pos (show id ≤ last by omega), if_neg (by rintro (h | h); exact c0 h; exact cl h)]
            refine Sm.dead rfl ?_
            obtain ⟨q', y, e, k1, k2, k3⟩ := rs_dead (fu := fu) (f := f) hfu (by omega) (show a + 1 ≤ L by omega) hL (last := mxZ id last) (k := ((k + 1 : Nat) : Int)) (n2 := n2) (sec_D hfu (by omega) (by omega) hL (c := c) (id := id))
            exact ⟨q', y, e, by omega, k2, k3⟩
      · rw [if_pos (hlt2.mpr (by omega))]
        refine Sm.dead rfl ?_
        have hs : ∃ q' y, f_Rd_readSection fu (KSo.mk (a + 1) L (if id = 0 ∨ last < id then false else true) f) c.1 c.2.1 c.2.2.1 c.2.2.2.1 c.2.2.2.2.1 c.2.2.2.2.2.1 c.2.2.2.2.2.2.1 c.2.2.2.2.2.2.2.1 c.2.2.2.2.2.2.2.2.1 c.2.2.2.2.2.2.2.2.2 id = .ret (KSo.mk q' L true f, y) ∧ a + 1 ≤ q' ∧ q' ≤ L := by
          by_cases ci : id = 0 ∨ last < id
          · rw [if_pos ci, sec_eq, nar_ok e2 (by omega) e4 hL e5, if_neg cf, obind_ret]
            obtain ⟨q', y, e, k1, k2⟩ := secW_D (fu := fu) (f := f) hfu (show 0 ≤ q by omega) e4 (Int.le_refl _) hL (c := c) (id := id)
            exact ⟨q', y, e, by omega, k2⟩
          · rw [if_neg ci]; exact sec_D hfu (by omega) (by omega) hL
        obtain ⟨q', y, e, k1, k2, k3⟩ := rs_dead (fu := fu) (f := f) hfu (by omega) (show a + 1 ≤ L by omega) hL (last := mxZ id last) (k := ((k + 1 : Nat) : Int)) (n2 := n2) hs
        exact ⟨q', y, e, by omega, k2, k3⟩
    · rw [e1, obind2_thr]
      refine Sm.dead rfl ?_
      have hs : ∃ q' y, f_Rd_readSection fu (KSo.mk (a + 1) L (if id = 0 ∨ last < id then false else true) f) c.1 c.2.1 c.2.2.1 c.2.2.2.1 c.2.2.2.2.1 c.2.2.2.2.2.1 c.2.2.2.2.2.2.1 c.2.2.2.2.2.2.2.1 c.2.2.2.2.2.2.2.2.1 c.2.2.2.2.2.2.2.2.2 id = .ret (KSo.mk q' L true f, y) ∧ a + 1 ≤ q' ∧ q' ≤ L := by
        by_cases ci : id = 0 ∨ last < id
        · rw [if_pos ci, sec_eq, nar_bad (z := KSo.mk a L true f) e2 (by omega) e4 hL, obind_ret]
          obtain ⟨q', y, e, k1, k2⟩ := secW_D (fu := fu) (f := f) hfu (show 0 ≤ q by omega) (Int.le_refl q) e4 hL (c := c) (id := id)
          exact ⟨q', y, e, by omega, k2⟩
        · rw [if_neg ci]; exact sec_D hfu (by omega) (by omega) hL
      obtain ⟨q', y, e, k1, k2, k3⟩ := rs_dead (fu := fu) (f := f) hfu (by omega) (show a + 1 ≤ L by omega) hL (last := mxZ id last) (k := ((k + 1 : Nat) : Int)) (n2 := n2) hs
      exact ⟨q', y, e, by omega, k2, k3⟩
end RDS
