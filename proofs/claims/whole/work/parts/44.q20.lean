/-! THE CODE: the loop over a body -/
section LPB
variable {fu : Nat} {f : Nat → Int32} {L n r vf : Int} {x1 : KRf × KMc × Int64} {y15 : KRf × KMc × KMj × KMl × Int}
set_option maxRecDepth 20000 in
theorem ob_eq {a : Int} {i : Nat} {ops es en el lab op : Nat → Int} {vs : Nat → Int64} {S lc : Int} {m : Nat} (hi : i < 2000) (hm : m ≤ 100) : f_BR_openBlock (KSo.mk a L false f) (KCo.mk S ops vs es en el lc lab) (KBR.mk op m) i = obind (f_So_octet (KSo.mk a L false f)) (fun x => if (x.2 = 64 ∨ x.2 = 127 ∨ x.2 = 126) ∧ m < 100 then .ret (x.1, KCo.mk S ops vs (updZ es i x.2) en el lc lab, KBR.mk (updZ op m i) ((m + 1 : Nat) : Int)) else .ret (KSo.mk x.1.at_ x.1.limit true x.1.bytes, KCo.mk S ops vs es en el lc lab, KBR.mk op m)) := by
  have hc : (0 : Int) ≤ i ∧ (i : Int) < 2000 := by omega
  unfold f_BR_openBlock
  congr 1; funext x
  simp only [jp, if_pos hc, Int.toNat_natCast, so_fail, obind_ret]
  by_cases h : (x.2 = 64 ∨ x.2 = 127 ∨ x.2 = 126) ∧ m < 100
  · rw [if_pos h]
    have e : ∀ (u w : Out Empty (KSo × KCo × KBR)), (if x.2 = 64 then u else if x.2 = 127 then u else if x.2 = 126 then u else w) = u := by
      intro u w
      by_cases d1 : x.2 = 64
      · rw [if_pos d1]
      · by_cases d2 : x.2 = 127
        · rw [if_neg d1, if_pos d2]
        · rw [if_neg d1, if_neg d2, if_pos (by omega)]
    rw [e, if_pos (show (KBR.mk op m).openCount < 100 by show (m : Int) < 100; omega), if_pos (show 0 ≤ (KBR.mk op m).openCount ∧ (KBR.mk op m).openCount < 100 by show 0 ≤ (m : Int) ∧ (m : Int) < 100; omega), if_pos (show R32 ((KBR.mk op m).openCount + 1) by show R32 ((m : Int) + 1); omega)]
    rfl
  · rw [if_neg h]
    by_cases d1 : x.2 = 64 ∨ x.2 = 127 ∨ x.2 = 126
    · have hm2 : ¬ (KBR.mk op m).openCount < 100 := by show ¬ (m : Int) < 100; omega
      simp only [if_neg hm2]
      by_cases d1 : x.2 = 64
      · rw [if_pos d1]
      · by_cases d2 : x.2 = 127
        · rw [if_neg d1, if_pos d2]
        · rw [if_neg d1, if_neg d2, if_pos (by omega)]
    · rw [if_neg (by omega), if_neg (by omega), if_neg (by omega)]
set_option maxRecDepth 20000 in
theorem te_no {a S : Int} {C : KCo} {op : Nat → Int} {i : Int} : f_BR_turnToElse (KSo.mk a L false f) C (KBR.mk op 0) i = .ret (KSo.mk a L true f, C) := by
  unfold f_BR_turnToElse; rfl
set_option maxRecDepth 20000 in
theorem te_eq {a : Int} {i o m : Nat} {ops es en el lab op : Nat → Int} {vs : Nat → Int64} {S lc : Int} (hm : m < 100) (ho : op m = o) (ho2 : o < 2000) : f_BR_turnToElse (KSo.mk a L false f) (KCo.mk S ops vs es en el lc lab) (KBR.mk op ((m + 1 : Nat) : Int)) i = if ops o = 4 ∧ el o < 0 then .ret (KSo.mk a L false f, KCo.mk S ops vs es en (updZ el o i) lc lab) else .ret (KSo.mk a L true f, KCo.mk S ops vs es en el lc lab) := by
  have e : (((m + 1 : Nat) : Int) - 1).toNat = m := by omega
  unfold f_BR_turnToElse
  simp only [jp]
  rw [if_neg (show ¬ (KBR.mk op ((m + 1 : Nat) : Int)).openCount ≤ 0 by show ¬ ((m + 1 : Nat) : Int) ≤ 0; omega), if_pos (show R32 ((KBR.mk op ((m + 1 : Nat) : Int)).openCount - 1) by show R32 (((m + 1 : Nat) : Int) - 1); omega), if_pos (show 0 ≤ (KBR.mk op ((m + 1 : Nat) : Int)).openCount - 1 ∧ (KBR.mk op ((m + 1 : Nat) : Int)).openCount - 1 < 100 by show 0 ≤ ((m + 1 : Nat) : Int) - 1 ∧ ((m + 1 : Nat) : Int) - 1 < 100; omega)]
  have e2 : (KBR.mk op ((m + 1 : Nat) : Int)).open_ ((KBR.mk op ((m + 1 : Nat) : Int)).openCount - 1).toNat = o := by
    show op ((((m + 1 : Nat) : Int) - 1).toNat) = o
    rw [e]; exact ho
  have hc : (0 : Int) ≤ o ∧ (o : Int) < 2000 := by omega
  rw [e2, if_neg (show ¬ (o : Int) < 0 by omega)]
  simp only [if_pos hc, Int.toNat_natCast, so_failM, obind_ret]
  by_cases c1 : ops o = 4
  · rw [if_pos (show (KCo.mk S ops vs es en el lc lab).ops o = 4 from c1)]
    by_cases c2 : el o < 0
    · rw [if_pos (show (KCo.mk S ops vs es en el lc lab).elses o < 0 from c2), if_pos ⟨c1, c2⟩]
    · rw [if_neg (show ¬ (KCo.mk S ops vs es en el lc lab).elses o < 0 from c2), if_neg (fun q => c2 q.2)]
  · rw [if_neg (show ¬ (KCo.mk S ops vs es en el lc lab).ops o = 4 from c1), if_neg (fun q => c1 q.1)]
set_option maxRecDepth 20000 in
theorem cb_0 {i : Nat} {ops es en el lab op : Nat → Int} {vs : Nat → Int64} {S lc : Int} (hi : i < 2000) : f_BR_closeBlock (KCo.mk S ops vs es en el lc lab) (KBR.mk op 0) i = .ret (KCo.mk S (updZ ops i 256) vs es en el lc lab, KBR.mk op 0, false) := by
  unfold f_BR_closeBlock
  rw [if_pos rfl, if_pos (by omega)]; rfl
set_option maxRecDepth 20000 in
theorem cb_eq {i o m : Nat} {ops es en el lab op : Nat → Int} {vs : Nat → Int64} {S lc : Int} (hm : m < 100) (ho : op m = o) (ho2 : o < 2000) (hx : el o < 2000) : f_BR_closeBlock (KCo.mk S ops vs es en el lc lab) (KBR.mk op ((m + 1 : Nat) : Int)) i = .ret (KCo.mk S ops vs es (if el o < 0 then updZ en o i else updZ (updZ en o i) (el o).toNat i) el lc lab, KBR.mk op m, true) := by
  have e : (((m + 1 : Nat) : Int) - 1).toNat = m := by omega
  unfold f_BR_closeBlock
  simp only [jp]
  have e2 : (KBR.mk op ((m + 1 : Nat) : Int)).open_ ((KBR.mk op ((m + 1 : Nat) : Int)).openCount - 1).toNat = o := by
    show op ((((m + 1 : Nat) : Int) - 1).toNat) = o
    rw [e]; exact ho
  have hc : (0 : Int) ≤ o ∧ (o : Int) < 2000 := by omega
  rw [if_neg (show ¬ (KBR.mk op ((m + 1 : Nat) : Int)).openCount = 0 by show ¬ ((m + 1 : Nat) : Int) = 0; omega), if_pos (show R32 ((KBR.mk op ((m + 1 : Nat) : Int)).openCount - 1) by show R32 (((m + 1 : Nat) : Int) - 1); omega), if_pos (show 0 ≤ (KBR.mk op ((m + 1 : Nat) : Int)).openCount - 1 ∧ (KBR.mk op ((m + 1 : Nat) : Int)).openCount - 1 < 100 by show 0 ≤ ((m + 1 : Nat) : Int) - 1 ∧ ((m + 1 : Nat) : Int) - 1 < 100; omega), e2]
  simp only [if_pos hc, Int.toNat_natCast]
  have e3 : (KBR.mk op ((m + 1 : Nat) : Int)).openCount - 1 = m := by show ((m + 1 : Nat) : Int) - 1 = m; omega
  rw [e3]
  by_cases c : el o < 0
  · rw [if_pos (show (KCo.mk S ops vs es en el lc lab).elses o < 0 from c), if_pos c]
  · rw [if_neg (show ¬ (KCo.mk S ops vs es en el lc lab).elses o < 0 from c), if_neg c, if_pos (show 0 ≤ (KCo.mk S ops vs es en el lc lab).elses o ∧ (KCo.mk S ops vs es en el lc lab).elses o < 2000 by show 0 ≤ el o ∧ el o < 2000; omega)]
set_option maxRecDepth 20000 in
theorem TB.step {ops es ops' es' : Nat → Int} {vs vs' : Nat → Int64} {l0 lc lc' : Int} {s i : Nat} (h : TB ops es vs l0 lc s i) (ho : ∀ j, j < i → ops' j = ops j ∧ es' j = es j ∧ vs' j = vs j) (hc : lc ≤ lc') (hn : ops' i = 14 → lc ≤ es' i ∧ es' i + (vs' i).toInt + 1 ≤ lc') : TB ops' es' vs' l0 lc' s (i + 1) := by
  obtain ⟨h0, h⟩ := h
  refine ⟨by omega, fun j h1 h2 h3 => ?_⟩
  by_cases hj : j = i
  · subst hj
    obtain ⟨k1, k2⟩ := hn h3
    exact ⟨by omega, k2, fun j' a b => absurd a (by omega)⟩
  · obtain ⟨a1, a2, a3⟩ := ho j (by omega)
    rw [a1] at h3
    obtain ⟨k1, k2, k3⟩ := h j h1 (by omega) h3
    rw [a2, a3]
    refine ⟨k1, by omega, fun j' b1 b2 b3 => ?_⟩
    by_cases hj' : j' = i
    · subst hj'
      have := (hn b3).1
      omega
    · obtain ⟨c1, c2, c3⟩ := ho j' (by omega)
      rw [c1] at b3
      rw [c2]
      exact k3 j' b1 (by omega) b3
set_option maxRecDepth 20000 in
theorem lp_body (hB : BB f) (hfu : 60 < fu) (hL : L ≤ 2000) {s : Nat} {p0 l0 : Int} {C0 : KCo} {M0 : KMe} : ∀ (j i k lc : Nat) (a : Int) (ops es en el lab hs ts lt op bl eo xo pos : Nat → Int) (vs : Nat → Int64) (stk : Nat → List Nat) (n1 n2 : Nat), L - a ≤ j → 0 ≤ a → a ≤ L → (k : Int) < a → (lc : Int) ≤ a → j < n1 → j + 2 < n2 → LInv f s p0 C0 M0 i a ops es en el lab op bl eo xo pos vs lc stk → TB ops es vs l0 lc s i →
    Sm a L f (fun t => t.1 = 1) (fun _ => True) (L207_Mo_codeOf fu (KMt.mk f n) vf x1 y15 n1 r (KMc.mk a L) bl (KMe.mk eo xo) ((stk i).length : Int)) (L73_BR_readAll fu n2 (KSo.mk a L false f) (KCo.mk i ops vs es en el lc lab) (KCt.mk hs ts lt) (KBR.mk op ((stk i).length : Int)) true k)
      (fun q x y => ∃ (bl' : KMk) (M' : KMe) (C' : KCo) (Ct' : KCt) (BR' : KBR) (k' : Int) (e lc' : Nat), x = (r, KMc.mk q L, bl', M', 0) ∧ y = (C', Ct', BR', false, k') ∧ C'.size = ((e + 1 : Nat) : Int) ∧ (e : Int) + 1 ≤ q ∧ C'.labelCount = lc' ∧ (lc' : Int) ≤ q ∧ BodyOk f C' M' s e p0 q ∧ FrC s p0 C0 M0 C'.ops C'.extras C'.ends C'.elses C'.labels C'.values C'.labelCount M'.endOf M'.elseOf ∧ TB C'.ops C'.extras C'.values l0 C'.labelCount s e) := by
  intro j
  induction j with
  | zero =>
    intro i k lc a ops es en el lab hs ts lt op bl eo xo pos vs stk n1 n2 hj h0 h1 hk hlc hn1 hn2 hI hT
    obtain ⟨n1, rfl⟩ : ∃ q, n1 = q + 1 := ⟨n1 - 1, by omega⟩
    obtain ⟨n2, rfl⟩ : ∃ q, n2 = q + 1 + 1 := ⟨n2 - 2, by omega⟩
    obtain ⟨u, e1, e2⟩ := md_out (fu := fu) (t := KMt.mk f n) (vf := vf) (x1 := x1) (y15 := y15) (n1 := n1) (r := r) (bl := bl) (M := KMe.mk eo xo) (o := (stk i).length) (show L ≤ a by omega)
    rw [e1]
    refine Sm.thr h1 e2 ?_
    by_cases hk2 : k < 2000
    · rw [ra_go hk2, in_out (Or.inr (by omega)), obind_ret, ra_stop]; exact Dd.ret trivial
    · exfalso
      omega
  | succ j ih =>
    intro i k lc a ops es en el lab hs ts lt op bl eo xo pos vs stk n1 n2 hj h0 h1 hk hlc hn1 hn2 hI hT
    obtain ⟨n1, rfl⟩ : ∃ q, n1 = q + 1 := ⟨n1 - 1, by omega⟩
    obtain ⟨n2, rfl⟩ : ∃ q, n2 = q + 1 := ⟨n2 - 1, by omega⟩
    by_cases ha : a < L
    · have hs1 := hI.1
      have hs2 := hI.2.1
      have hpos := hI.2.2.2.1
      have hlen := hI.2.2.2.2.2.2.2.2.1
      have hOP := hI.2.2.2.2.2.2.2.1
      have hPD := hI.2.2.2.2.1
      have hSK := hI.2.2.2.2.2.1
      have hME := hI.2.2.2.2.2.2.1
      have hi : i < 2000 := by omega
      rw [ra_go (by omega)]
      obtain ⟨hb0, hb1⟩ := by8_ge (f a.toNat)
      generalize hb : by8 (f a.toNat) = b at hb0 hb1
      rw [in_known (by omega) h0 ha hL hb]
      by_cases hkn : kn b
      · rw [if_pos hkn, co_add hi, obind_ret]
        dsimp only
        by_cases c1 : isOp b
        · rw [if_pos c1, ob_eq hi hlen]
          obtain ⟨E, hE, e⟩ := md_open (fu := fu) (n := n) (vf := vf) (x1 := x1) (y15 := y15) (n1 := n1) (r := r) (bl := bl) (eo := eo) (xo := xo) (o := (stk i).length) h0 ha hL hb c1
          rw [e]
          simp only [obind_as]
          refine Sm.low (b := a + 1) ?_ (by omega)
          by_cases ha2 : a + 1 < L
          · rw [mo_one (by omega) ha2 hL, so_oct (by omega) ha2 hL, obind2_ret, obind_ret]
            dsimp only
            generalize hc : by8 (f (a + 1).toNat) = c
            by_cases hcc : (c = 64 ∨ c = 127 ∨ c = 126) ∧ (stk i).length < 100
            · rw [if_pos hcc, if_pos hcc, obind_ret, obind_ret]
              have := ih (i + 1) (k + 1) lc (a + 2) _ _ _ _ _ (updZ hs i 0) (updZ ts i (-1)) lt _ _ _ _ _ _ _ n1 n2 (by omega) (by omega) (by omega) (by omega) (by omega) (by omega) (by omega) (hI.opn (e0 := 64) (v0 := 0) h0 hb c1 (by omega) hc.symm hcc.1 hcc.2) (hT.step (fun j h => ⟨upd_ag j h, by rw [upd_ag j h, upd_ag j h], updL_n (by omega)⟩) (Int.le_refl _) (fun h => absurd h (by rw [updZ_s]; omega)))
              rw [upS_s, List.length_cons] at this
              refine Sm.low (b := a + 2) ?_ (by omega)
              rw [show a + 1 + 1 = a + 2 by omega]
              exact this
            · rw [if_neg hcc, if_neg hcc, obind_ret, obind_ret]
              refine Sm.low (b := a + 1 + 1) (Sm.thr (by omega) ((hE _).trans rfl) ?_) (by omega)
              exact ra_dead (by omega)
          · rw [mo_oneE (by omega), so_octE (Or.inr (by omega)), obind2_thr, obind_ret]
            refine Sm.thr (by omega) ((hE _).trans rfl) ?_
            dsimp only
            rw [if_neg (by omega), obind_ret, obind_ret]
            exact ra_dead (by omega)
        · rw [if_neg c1]
          by_cases c5 : b = 5
          · subst c5
            rw [if_pos rfl]
            obtain ⟨u, hu, e0, e1⟩ := md_else (fu := fu) (n := n) (vf := vf) (x1 := x1) (y15 := y15) (n1 := n1) (r := r) (bl := bl) (eo := eo) (xo := xo) (o := (stk i).length) h0 ha hL hb
            rcases hst : stk i with _ | ⟨o, t⟩
            · rw [hst] at e0
              rw [e0 rfl]
              refine Sm.low (b := a + 1) (Sm.thr (by omega) hu ?_) (by omega)
              rw [show ((([] : List Nat).length : Nat) : Int) = 0 from rfl, te_no (S := 0), obind_ret, obind_ret]
              exact ra_dead (by omega)
            · have hS := hSK.2.2.2
              rw [hst] at hS hOP e1 hlen
              rw [List.length_cons] at hlen e1
              obtain ⟨b1, b2, b3, b4, b5, b6, b7⟩ := hS
              obtain ⟨p1, p2, p3⟩ := hOP
              have ho := (hPD o b1 b2)
              have hob := ho.2.2.2.1
              have hpl : pos o < a := by rw [← hpos]; exact hPD.lt' b1 b2 (by omega)
              rw [List.length_cons, te_eq (by omega) p1 (by omega), e1 t.length rfl (by omega) (by rw [p2]; exact ho.1) (by rw [p2]; omega), p2]
              rw [updZ_n (show o ≠ i by omega), updZ_n (show o ≠ i by omega)]
              have q1 : (f (pos o).toNat).toInt = 4 ↔ ops o = 4 := by
                rw [← hob, by8_B hB]
                constructor
                · intro h; rw [h]; rfl
                · intro h
                  by_cases w : (f (pos o).toNat).toInt < 0
                  · rw [if_pos w] at h
                    have := by8_ge (f (pos o).toNat)
                    have hh := hB (pos o).toNat
                    have h8 : -128 ≤ (f (pos o).toNat).toInt := by
                      rw [← hh, Int8.toInt_toInt32]
                      exact Int8.le_toInt _
                    omega
                  · rw [if_neg w] at h; exact h
              have q2 := (hME o b1 b2 b3).1
              have q3 := (hSK.2.2.1 o b1 b2 b3).1
              have q4 : xo (pos o).toNat < 0 ↔ el o < 0 := by
                rw [q2]
                rcases q3 with q3 | ⟨x, g1, g2, g3, _⟩
                · rw [if_pos (by omega)]; omega
                · rw [if_neg (by omega), g1]
                  have := (hPD x (by omega) g3).1
                  show pos x < 0 ↔ _
                  omega
              by_cases w : ops o = 4 ∧ el o < 0
              · rw [if_pos ⟨q1.mpr w.1, q4.mpr w.2⟩, if_pos w, obind_ret, obind_ret]
                have := ih (i + 1) (k + 1) lc (a + 1) _ _ _ _ _ (updZ hs i 0) (updZ ts i (-1)) lt _ _ _ _ _ _ _ n1 n2 (by omega) (by omega) (by omega) (by omega) (by omega) (by omega) (by omega) (hI.els (e0 := 64) (v0 := 0) h0 hb (by omega) hst w.1 (by rcases q3 with q3 | ⟨x, g1, _⟩ <;> omega)) (hT.step (fun j h => ⟨upd_ag j h, upd_ag j h, updL_n (by omega)⟩) (Int.le_refl _) (fun h => absurd h (by rw [updZ_s]; decide)))
                rw [upS_s, hst, List.length_cons] at this
                exact Sm.low this (by omega)
              · rw [if_neg (fun q => w ⟨q1.mp q.1, q4.mp q.2⟩), if_neg w, obind_ret, obind_ret]
                refine Sm.low (b := a + 1) (Sm.thr (by omega) hu ?_) (by omega)
                exact ra_dead (by omega)
          · rw [if_neg c5]
            by_cases c11 : b = 11
            · subst c11
              rw [if_pos rfl]
              rcases hst : stk i with _ | ⟨o, t⟩
              · rw [show ((([] : List Nat).length : Nat) : Int) = 0 from rfl, md_end0 h0 ha hL hb, cb_0 hi, obind_ret, obind_ret]
                obtain ⟨n2, rfl⟩ : ∃ q, n2 = q + 1 := ⟨n2 - 1, by omega⟩
                dsimp only
                rw [ra_stop]
                refine Sm.low (b := a + 1) (Sm.ret (by omega) ⟨_, _, _, _, _, _, i, lc, rfl, rfl, rfl, by omega, rfl, by omega, ?_, ?_, ?_⟩) (by omega)
                · have ag : ∀ j, j < i → updZ (updZ ops i 11) i 256 j = ops j ∧ updZ en i (-1) j = en j ∧ updZ el i (-1) j = el j := fun j h => ⟨by rw [upd_ag j h, upd_ag j h], upd_ag j h, upd_ag j h⟩
                  refine ⟨hs1, pos, stk, hI.2.2.1, ?_, ?_, hst, ?_, updZ_s _ _ _, by rw [hpos]; exact hb, by rw [hpos]; exact h0, by rw [hpos]⟩
                  · exact hPD.cg (fun j h => ⟨(ag j h).1, updL_n (by omega), updZ_n (by omega)⟩) (fun _ _ => rfl) (Int.le_refl _) (fun _ _ _ => rfl)
                  · exact hSK.cg hs1 ag (fun _ _ => rfl)
                  · exact hME.cg hSK ag (fun _ _ => rfl) (fun _ _ => rfl)
                · obtain ⟨f1, f2, f3, f4⟩ := hI.2.2.2.2.2.2.2.2.2
                  refine ⟨fun j hj => ?_, f2, f3, f4⟩
                  obtain ⟨g1, g2, g3, g4, g5⟩ := f1 j hj
                  exact ⟨by show updZ (updZ ops i 11) i 256 j = _; rw [upd_ag j (by omega), upd_ag j (by omega)]; exact g1, by show vp_updL vs i 0 j = _; rw [updL_n (by omega)]; exact g2, by show updZ es i 64 j = _; rw [updZ_n (by omega)]; exact g3, by show updZ en i (-1) j = _; rw [updZ_n (by omega)]; exact g4, by show updZ el i (-1) j = _; rw [updZ_n (by omega)]; exact g5⟩
                · obtain ⟨t1, t2⟩ := hT
                  refine ⟨t1, fun j k1 k2 k3 => ?_⟩
                  have ag : ∀ j, j < i → updZ (updZ ops i 11) i 256 j = ops j ∧ updZ es i 64 j = es j ∧ vp_updL vs i 0 j = vs j := fun j h => ⟨by rw [upd_ag j h, upd_ag j h], upd_ag j h, updL_n (by omega)⟩
                  obtain ⟨a1, a2, a3⟩ := ag j k2
                  have k3 : updZ (updZ ops i 11) i 256 j = 14 := k3
                  rw [a1] at k3
                  obtain ⟨c1, c2, c3⟩ := t2 j k1 k2 k3
                  refine ⟨by show l0 ≤ updZ es i 64 j; rw [a2]; exact c1, by show updZ es i 64 j + (vp_updL vs i 0 j).toInt + 1 ≤ lc; rw [a2, a3]; exact c2, fun j' d1 d2 d3 => ?_⟩
                  obtain ⟨b1, b2, b3⟩ := ag j' d2
                  have d3 : updZ (updZ ops i 11) i 256 j' = 14 := d3
                  rw [b1] at d3
                  show updZ es i 64 j + (vp_updL vs i 0 j).toInt + 1 ≤ updZ es i 64 j'
                  rw [a2, a3, b2]
                  exact c3 j' d1 d2 d3
              · have hS := hSK.2.2.2
                rw [hst] at hS hOP hlen
                rw [List.length_cons] at hlen
                obtain ⟨b1, b2, b3, b4, b5, b6, b7⟩ := hS
                obtain ⟨p1, p2, p3⟩ := hOP
                have ho := (hPD o b1 b2)
                have hpl : pos o < a := by rw [← hpos]; exact hPD.lt' b1 b2 (by omega)
                have q3 := (hSK.2.2.1 o b1 b2 b3).1
                have hel : el o < i := by rcases q3 with q3 | ⟨x, g1, g2, g3, _⟩ <;> omega
                have elo : updZ el i (-1) o = el o := updZ_n (by omega)
                rw [List.length_cons, md_end h0 ha hL hb (by omega) (by rw [p2]; exact ho.1) (by rw [p2]; omega), p2, cb_eq (by omega) p1 (by omega) (by rw [elo]; omega), elo, obind_ret, obind_ret]
                have := ih (i + 1) (k + 1) lc (a + 1) _ _ _ _ _ (updZ hs i 0) (updZ ts i (-1)) lt _ _ _ _ _ _ _ n1 n2 (by omega) (by omega) (by omega) (by omega) (by omega) (by omega) (by omega) (hI.nd (e0 := 64) (v0 := 0) (en' := if el o < 0 then updZ (updZ en i (-1)) o i else updZ (updZ (updZ en i (-1)) o i) (el o).toNat i) h0 hb (by omega) hst ?_ ?_ ?_) (hT.step (fun j h => ⟨upd_ag j h, upd_ag j h, updL_n (by omega)⟩) (Int.le_refl _) (fun h => absurd h (by rw [updZ_s]; decide)))
                · rw [upS_s] at this
                  exact Sm.low this (by omega)
                · by_cases w : el o < 0
                  · rw [if_pos w, updZ_s]
                  · rw [if_neg w]
                    rcases q3 with q3 | ⟨x, g1, g2, g3, _⟩
                    · omega
                    · rw [updZ_n (by rw [g1]; show o ≠ x; omega), updZ_s]
                · intro x hx
                  rw [if_neg (by omega), hx]
                  exact updZ_s _ _ _
                · intro y h2 h3
                  by_cases w : el o < 0
                  · rw [if_pos w, updZ_n h2]
                  · rw [if_neg w, updZ_n (h3 (el o).toNat (by omega)), updZ_n h2]
            · rw [if_neg c11]
              obtain ⟨E, hE, e⟩ := md_imm (fu := fu) (n := n) (vf := vf) (x1 := x1) (y15 := y15) (n1 := n1) (r := r) (bl := bl) (M := KMe.mk eo xo) (o := (stk i).length) h0 ha hL hb c1 c5 c11
              rw [e]
              refine Sm.low (b := a + 1) ?_ (by omega)
              by_cases c14 : b = 14
              · subst c14
                rw [if_pos rfl]
                simp only [obind_as, obind_ret]
                refine Sm.bind (pr_tab (by omega) (by omega) (by omega) hL hi (by omega)) ?_ (fun t ht => ⟨_, rfl, (hE t).trans ht⟩) (fun q y _ _ _ => ra_dead (by omega))
                rintro q x y h2 h3 ⟨rfl, v, e2, lc', lab', lt', rfl, hd, g1, g2, g3, g4⟩
                dsimp only
                have := ih (i + 1) (k + 1) lc' q _ _ _ _ _ (updZ hs i 0) (updZ ts i (-1)) lt' _ _ _ _ _ _ _ n1 n2 (by omega) (by omega) h3 (by omega) g2 (by omega) (by omega) (hI.imm (e0 := 64) (v0 := 0) h0 hb hkn c1 c5 c11 h2 (by omega) hd (fun l hl => g3 l (by omega)) (by omega)) (hT.step (fun j h => ⟨upd_ag j h, by rw [upd_ag j h, upd_ag j h], by rw [updL_n (by omega), updL_n (by omega)]⟩) (by omega) (fun _ => by
                  obtain ⟨n9, l9, q9, d1, d2, d3, d4, d5, d6⟩ := hd.2.2.1 rfl
                  rw [updZ_s, updL_s, d3, Int32.toInt_toInt64, iI_t (by omega)]
                  omega))
                rw [upS_s] at this
                exact this
              · rw [if_neg c14]
                simp only [obind_as, obind_ret]
                refine Sm.bind (pr_imm (by omega) (by omega) (by omega) hL hi hkn c5 c11 c14 c1) ?_ (fun t ht => ⟨_, rfl, (hE t).trans ht⟩) (fun q y _ _ _ => ra_dead (by omega))
                rintro q x y h2 h3 ⟨rfl, v, e2, rfl, hd⟩
                dsimp only
                have := ih (i + 1) (k + 1) lc q _ _ _ _ _ (updZ hs i 0) (updZ ts i (-1)) lt _ _ _ _ _ _ _ n1 n2 (by omega) (by omega) h3 (by omega) (by omega) (by omega) (by omega) (hI.imm (e0 := 64) (v0 := 0) h0 hb hkn c1 c5 c11 h2 (by omega) hd (fun _ _ => rfl) (Int.le_refl _)) (hT.step (fun j h => ⟨upd_ag j h, by rw [upd_ag j h, upd_ag j h], by rw [updL_n (by omega), updL_n (by omega)]⟩) (Int.le_refl _) (fun h => absurd h (by rw [updZ_s]; exact c14)))
                rw [upS_s] at this
                exact this
      · rw [if_neg hkn, obind_ret]
        obtain ⟨E, hE, e⟩ := md_imm (fu := fu) (n := n) (vf := vf) (x1 := x1) (y15 := y15) (n1 := n1) (r := r) (bl := bl) (M := KMe.mk eo xo) (o := (stk i).length) h0 ha hL hb (by omega) (by omega) (by omega)
        rw [e, im_bad hkn hb0, obind2_thr]
        refine Sm.low (b := a + 1) (Sm.thr (by omega) ((hE _).trans rfl) ?_) (by omega)
        exact ra_dead (by omega)
    · obtain ⟨n2, rfl⟩ : ∃ q, n2 = q + 1 := ⟨n2 - 1, by omega⟩
      obtain ⟨u, e1, e2⟩ := md_out (fu := fu) (t := KMt.mk f n) (vf := vf) (x1 := x1) (y15 := y15) (n1 := n1) (r := r) (bl := bl) (M := KMe.mk eo xo) (o := (stk i).length) (show L ≤ a by omega)
      rw [e1]
      exact Sm.thr h1 e2 (by
        by_cases hk2 : k < 2000
        · rw [ra_go hk2, in_out (Or.inr (by omega)), obind_ret, ra_stop]; exact Dd.ret trivial
        · rw [L73_BR_readAll.eq_2, if_pos (by omega)]
          exfalso
          omega)
end LPB

/-! THE CODE: the variables of a body -/
/-- places of the class's flat row and of the reference's rows of rows that hold the same types -/
def LRel (S : Nat → Nat → Prop) (w : Nat → Int) (m : Nat → Nat → Int) : Prop := ∀ t k, S t k → k < 60 ∧ w (t * 60 + k) = m t k ∧ (m t k = 127 ∨ m t k = 126)
set_option maxRecDepth 20000 in
theorem LRel.add {S : Nat → Nat → Prop} {w : Nat → Int} {m : Nat → Nat → Int} (h : LRel S w m) {t k : Nat} {x : Int} (hk : k < 60) (hx : x = 127 ∨ x = 126) : LRel (fun i j => S i j ∨ (i = t ∧ j = k)) (updZ w (t * 60 + k) x) (upd2 m t k x) := by
  intro i j hS
  by_cases c : i = t ∧ j = k
  · obtain ⟨rfl, rfl⟩ := c
    rw [updZ_s, upd2_s]; exact ⟨hk, rfl, hx⟩
  · have hS := hS.resolve_right c
    obtain ⟨a1, a2, a3⟩ := h i j hS
    rw [upd2_n (by omega), updZ_n (by omega)]
    exact ⟨a1, a2, a3⟩
set_option maxRecDepth 20000 in
theorem LRel.sub {S S' : Nat → Nat → Prop} {w : Nat → Int} {m : Nat → Nat → Int} (h : LRel S w m) (hs : ∀ i j, S' i j → S i j) : LRel S' w m := fun i j q => h i j (hs i j q)
section LOC
variable {fu g : Nat} {f : Nat → Int32} {L n r : Int} {st lcs : Nat → Int}
set_option maxRecDepth 20000 in
theorem cw_end {x16 : KSo × Int64} {x18 : KSo × Int} {w : KWj} {sz k : Int} {n2 : Nat} (h : x16.2.toInt32.toInt ≤ k) : L52_BR_readLocals fu g x16 x18 (n2 + 1) w sz k = .ret (w, sz, k) := by
  rw [L52_BR_readLocals.eq_2, if_pos h]
set_option maxRecDepth 20000 in
theorem cw_step {x16 : KSo × Int64} {x18 : KSo × Int} {lo : Nat → Int} {sz k : Nat} {n2 : Nat} (h : ¬ x16.2.toInt32.toInt ≤ k) (hg : g < 30) (hs : sz < 60) (hk : k ≤ 60) : L52_BR_readLocals fu g x16 x18 (n2 + 1) (KWj.mk st lcs lo) sz k = L52_BR_readLocals fu g x16 x18 n2 (KWj.mk st lcs (updZ lo (g * 60 + sz) x18.2)) ((sz + 1 : Nat) : Int) ((k + 1 : Nat) : Int) := by
  have e : ((g : Int) * 60 + sz).toNat = g * 60 + sz := by omega
  rw [L52_BR_readLocals.eq_2, if_neg h, if_pos (show R32 ((g : Int) * 60) by omega), if_pos (show R32 ((g : Int) * 60 + sz) by omega), if_pos (show 0 ≤ (g : Int) * 60 + sz ∧ (g : Int) * 60 + sz < 1800 by omega), if_pos (show R32 ((sz : Int) + 1) by omega), if_pos (show R32 ((k : Int) + 1) by omega), e]
  rfl
set_option maxRecDepth 20000 in
theorem mw_end {zj : KMj} {x94 x102 : KRf × KMc × Int} {ml : KMl} {k : Int} {n1 : Nat} (h : x94.2.2 ≤ k) : L123_Mo_codeOf fu g zj x94 x102 (n1 + 1) ml k = .ret (ml, k) := by
  rw [L123_Mo_codeOf.eq_2, if_pos h]
set_option maxRecDepth 20000 in
theorem mw_step {zj : KMj} {x94 x102 : KRf × KMc × Int} {ml : Nat → Nat → Int} {c k : Nat} {n1 : Nat} (h : ¬ x94.2.2 ≤ k) (hg : g < 30) (hc : zj.localCount g = c) (hs : c + k < 60) : L123_Mo_codeOf fu g zj x94 x102 (n1 + 1) ml k = L123_Mo_codeOf fu g zj x94 x102 n1 (upd2 ml g (c + k) x102.2.2) ((k + 1 : Nat) : Int) := by
  have hgg : (0 : Int) ≤ g ∧ (g : Int) < 30 := by omega
  have e : zj.localCount (g : Int).toNat = c := hc
  have e2 : ((c : Int) + k).toNat = c + k := by omega
  rw [L123_Mo_codeOf.eq_2, if_neg h, if_pos hgg, if_pos hgg, e, if_pos (show R32 ((c : Int) + k) by omega), if_pos (show 0 ≤ (c : Int) + k ∧ (c : Int) + k < 60 by omega), if_pos (show R32 ((k : Int) + 1) by omega), e2]
  rfl
set_option maxRecDepth 20000 in
theorem lp_lw (hg : g < 30) {zj : KMj} {c N : Nat} (hc : zj.localCount g = c) (hN : c + N ≤ 60) {ty : Int} (hty : ty = 127 ∨ ty = 126) {x16 : KSo × Int64} {x18 : KSo × Int} {x94 x102 : KRf × KMc × Int} (h16 : x16.2.toInt32.toInt = N) (h18 : x18.2 = ty) (h94 : x94.2.2 = N) (h102 : x102.2.2 = ty) : ∀ (j k : Nat) (S : Nat → Nat → Prop) (lo : Nat → Int) (ml : Nat → Nat → Int) (n1 n2 : Nat), k + j = N → j < n1 → j < n2 → LRel S lo ml →
    ∃ lo' ml', L52_BR_readLocals fu g x16 x18 n2 (KWj.mk st lcs lo) ((c + k : Nat) : Int) k = .ret (KWj.mk st lcs lo', ((c + N : Nat) : Int), (N : Int)) ∧ L123_Mo_codeOf fu g zj x94 x102 n1 ml k = .ret (ml', (N : Int)) ∧ LRel (fun i p => S i p ∨ (i = g ∧ c + k ≤ p ∧ p < c + N)) lo' ml' := by
  intro j
  induction j with
  | zero =>
    intro k S lo ml n1 n2 hk h1 h2 hR
    obtain ⟨n1, rfl⟩ : ∃ q, n1 = q + 1 := ⟨n1 - 1, by omega⟩
    obtain ⟨n2, rfl⟩ : ∃ q, n2 = q + 1 := ⟨n2 - 1, by omega⟩
    obtain rfl : k = N := by omega
    exact ⟨lo, ml, cw_end (by omega), mw_end (by omega), hR.sub (fun i p q => q.resolve_right (by omega))⟩
  | succ j ih =>
    intro k S lo ml n1 n2 hk h1 h2 hR
    obtain ⟨n1, rfl⟩ : ∃ q, n1 = q + 1 := ⟨n1 - 1, by omega⟩
    obtain ⟨n2, rfl⟩ : ∃ q, n2 = q + 1 := ⟨n2 - 1, by omega⟩
    rw [cw_step (by omega) hg (by omega) (by omega), mw_step (by omega) hg hc (by omega), h18, h102]
    obtain ⟨lo', ml', e1, e2, e3⟩ := ih (k + 1) _ _ _ n1 n2 (by omega) (by omega) (by omega) (hR.add (t := g) (k := c + k) (x := ty) (by omega) hty)
    refine ⟨lo', ml', e1, e2, e3.sub (fun i p q => ?_)⟩
    rcases q with q | ⟨q1, q2, q3⟩
    · exact Or.inl (Or.inl q)
    · by_cases w : p = c + k
      · exact Or.inl (Or.inr ⟨q1, w⟩)
      · exact Or.inr ⟨q1, by omega, q3⟩
set_option maxRecDepth 20000 in
theorem cw_dead (hg : g < 30) {x16 : KSo × Int64} {x18 : KSo × Int} {N : Nat} (h16 : x16.2.toInt32.toInt = N) : ∀ (j k c : Nat) (lo : Nat → Int) (n2 : Nat), k + j = N → c + j ≤ 60 → k + j ≤ 60 → j < n2 → ∃ lo', L52_BR_readLocals fu g x16 x18 n2 (KWj.mk st lcs lo) c k = .ret (KWj.mk st lcs lo', ((c + j : Nat) : Int), (N : Int)) := by
  intro j
  induction j with
  | zero =>
    intro k c lo n2 hk hc hkk h2
    obtain ⟨n2, rfl⟩ : ∃ q, n2 = q + 1 := ⟨n2 - 1, by omega⟩
    obtain rfl : k = N := by omega
    exact ⟨lo, cw_end (by omega)⟩
  | succ j ih =>
    intro k c lo n2 hk hc hkk h2
    obtain ⟨n2, rfl⟩ : ∃ q, n2 = q + 1 := ⟨n2 - 1, by omega⟩
    rw [cw_step (by omega) hg (by omega) (by omega)]
    obtain ⟨lo', e⟩ := ih (k + 1) (c + 1) (updZ lo (g * 60 + c) x18.2) n2 (by omega) (by omega) (by omega) (by omega)
    exact ⟨lo', by rw [e, show c + 1 + j = c + (j + 1) by omega]⟩
set_option maxRecDepth 20000 in
theorem cr_end {x1 : KSo × Int64} {z : KSo} {w : KWj} {sz k : Int} {n2 : Nat} (h : x1.2.toInt32.toInt ≤ k) : L18_BR_readLocals fu g x1 (n2 + 1) z w sz k = .ret (z, w, sz, k) := by
  rw [L18_BR_readLocals.eq_2, if_pos h]
set_option maxRecDepth 20000 in
theorem cr_step {x1 : KSo × Int64} {z : KSo} {w : KWj} {sz k : Nat} {n2 : Nat} (h : ¬ x1.2.toInt32.toInt ≤ k) (hs : sz ≤ 60) (hk : k ≤ 60) : L18_BR_readLocals fu g x1 (n2 + 1) z w sz k = obind (f_So_unsigned fu z ((iI (60 - sz)).toInt64)) (fun x => obind (f_So_valueType x.1) (fun y => obind (L52_BR_readLocals fu g x y fu w sz 0) (fun u => L18_BR_readLocals fu g x1 n2 y.1 u.1 u.2.1 ((k + 1 : Nat) : Int)))) := by
  rw [L18_BR_readLocals.eq_2, if_neg h, if_pos (show R32 (60 - (sz : Int)) by omega)]
  simp only [if_pos (show R32 ((k : Int) + 1) by omega)]
  rfl
set_option maxRecDepth 20000 in
theorem cr_dead (hfu : 0 < fu) {a : Int} {x1 : KSo × Int64} {N : Nat} (h1 : x1.2.toInt32.toInt = N) (hN : N ≤ 60) : ∀ (j k c : Nat) (w : KWj) (n2 : Nat), k + j = N → c ≤ 60 → j < n2 → Dd a L f (fun _ => True) (L18_BR_readLocals fu g x1 n2 (KSo.mk a L true f) w c k) := by
  intro j
  induction j with
  | zero =>
    intro k c w n2 hk hc hn
    obtain ⟨n2, rfl⟩ : ∃ q, n2 = q + 1 := ⟨n2 - 1, by omega⟩
    rw [cr_end (by omega)]; exact Dd.ret trivial
  | succ j ih =>
    intro k c w n2 hk hc hn
    obtain ⟨n2, rfl⟩ : ∃ q, n2 = q + 1 := ⟨n2 - 1, by omega⟩
    obtain ⟨fu, rfl⟩ : ∃ q, fu = q + 1 := ⟨fu - 1, by omega⟩
    rw [cr_step (by omega) hc (by omega), so_unsD (by omega), obind_ret]
    dsimp only
    obtain ⟨v, e⟩ := so_vtD (f := f) (a := a) (L := L)
    rw [e, obind_ret, cw_end (by show (0 : Int64).toInt32.toInt ≤ 0; decide), obind_ret]
    exact ih (k + 1) c w n2 (by omega) hc (by omega)
set_option maxRecDepth 20000 in
theorem pr_run {a : Int} {c : Nat} (hc : c ≤ 60) (hfu : 5 < fu) (h0 : 0 ≤ a) (h1 : a ≤ L) (h3 : L ≤ 2000) : PrR 1 a L f r (obind2 (f_Mo_few2 fu r (KMc.mk a L) (KMt.mk f n) 60) (fun x => if R32 ((c : Int) + x.2.2) then if 60 < (c : Int) + x.2.2 then .thr (1, x.2.1) else .ret x else .bad) (fun x => .thr x)) (f_So_unsigned fu (KSo.mk a L false f) ((iI (60 - c)).toInt64)) (fun b v => v.toInt32.toInt = b ∧ 0 ≤ b ∧ b ≤ 60 - c) (fun v => v = 0) := by
  have em : ((iI (60 - (c : Int))).toInt64).toInt = 60 - c := by rw [Int32.toInt_toInt64, iI_t (by omega)]
  rcases lp_uns (fu := fu) (most := (iI (60 - (c : Int))).toInt64) (f := f) (r := r) (n := n) h3 (by omega) 5 0 a 0 fu fu rfl h0 h1 (by decide) (by omega) (by omega) with ⟨q, w, e1, e2, e3, e4, e5⟩ | ⟨q, q2, e1, e2, e3, e4⟩
  · have hw := uL_toInt (v := w) (by omega)
    rw [few_eq, show f_Mo_count fu r (KMc.mk a L) (KMt.mk f n) = _ from e1, obind2_ret]
    dsimp only
    have e60 : (60 : Int64).toInt = 60 := by decide
    by_cases h : (60 : Int64).toInt < w.toInt
    · rw [if_pos h, obind2_thr]
      exact Or.inr ⟨_, q, 0, rfl, e2.trans (if_neg (by omega)), by omega, e4, rfl⟩
    · have e6 := uL_i32 (w := w) (by omega)
      rw [if_neg h, obind2_ret]
      dsimp only
      rw [if_pos (show R32 ((c : Int) + w.toInt32.toInt) by omega)]
      by_cases h2 : 60 < (c : Int) + w.toInt32.toInt
      · rw [if_pos h2]
        exact Or.inr ⟨_, q, 0, rfl, e2.trans (if_neg (by omega)), by omega, e4, rfl⟩
      · rw [if_neg h2]
        exact Or.inl ⟨q, _, w, rfl, e2.trans (if_pos (by omega)), by omega, e4, rfl, by omega, by omega⟩
  · refine Or.inr ⟨KMc.mk q2 L, q, 0, ?_, e2, e3, e4, rfl⟩
    rw [few_eq, show f_Mo_count fu r (KMc.mk a L) (KMt.mk f n) = _ from e1, obind2_thr, obind2_thr]
set_option maxRecDepth 20000 in
theorem mr_end {zk : KMk} {t : KMt} {ze : KMe} {x8 : KRf × KMc × Int} {c : KMc} {zj : KMj} {zl : KMl} {k : Int} {n1 : Nat} (h : x8.2.2 ≤ k) : L72_Mo_codeOf fu zk t ze g x8 (n1 + 1) r c zj zl k = .ret (r, c, zj, zl, k) := by
  rw [L72_Mo_codeOf.eq_2, if_pos h]
set_option maxRecDepth 20000 in
theorem mr_step {zk : KMk} {t : KMt} {ze : KMe} {x8 : KRf × KMc × Int} {c : KMc} {cs ca ce lcm : Nat → Int} {C : Int} {zl : KMl} {m k : Nat} {n1 : Nat} (h : ¬ x8.2.2 ≤ k) (hg : g < 30) (hm : lcm g = m) (hm2 : m ≤ 60) (hk : k ≤ 60) : ∃ E : KRf × KMc → KRf × KMc × KMk × KMj × KMl × KMe, (∀ x, (E x).1 = x.1) ∧ L72_Mo_codeOf fu zk t ze g x8 (n1 + 1) r c (KMj.mk C ca ce lcm) zl k = obind2 (obind2 (f_Mo_few2 fu r c t 60) (fun x => if R32 ((m : Int) + x.2.2) then if 60 < (m : Int) + x.2.2 then .thr (1, x.2.1) else .ret x else .bad) (fun x => .thr x)) (fun x => obind2 (f_Mo_valueType x.1 x.2.1 t) (fun y => obind2 (L123_Mo_codeOf fu g (KMj.mk C ca ce lcm) x y fu zl 0) (fun u => if R32 ((m : Int) + x.2.2) then L72_Mo_codeOf fu zk t ze g x8 n1 y.1 y.2.1 (KMj.mk C ca ce (updZ lcm g ((m : Int) + x.2.2))) u.1 ((k + 1 : Nat) : Int) else .bad) (fun u => .thr u)) (fun y => .thr (E y))) (fun x => .thr (E x)) := by
  have hgg : (0 : Int) ≤ g ∧ (g : Int) < 30 := by omega
  have e : (KMj.mk C ca ce lcm).localCount g = m := hm
  refine ⟨fun x => (x.1, x.2, zk, KMj.mk C ca ce lcm, zl, ze), fun _ => rfl, ?_⟩
  rw [L72_Mo_codeOf.eq_2, if_neg h]
  simp only [jp_ite]
  simp only [jp, rd_ite', if_pos hgg, if_pos (show R32 ((k : Int) + 1) by omega), Int.toNat_natCast]
  simp only [e]
  refine Out.cs (P := fun o => obind2 o _ _ = obind2 (obind2 o _ _) _ _) (f_Mo_few2 fu r c t 60) (fun x => ?_) (fun _ => rfl) rfl
  simp only [obind2_ret]
  by_cases h1 : R32 ((m : Int) + x.2.2)
  · simp only [if_pos h1]
    by_cases h2 : 60 < (m : Int) + x.2.2
    · simp only [if_pos h2]; rfl
    · simp only [if_neg h2, obind2_ret, if_pos h1]; rfl
  · simp only [if_neg h1]; rfl
end LOC

/-! THE CODE: a function -/
section BW
variable {σ τ α β γ δ : Type} {a L L' st r : Int} {f : Nat → Int32} {T : τ → Prop} {S : σ → Prop} {F : Out σ α} {G : Out Empty (KSo × β)} {V : Int → α → β → Prop} {K : α → Out τ γ} {E : σ → Out τ γ} {H : KSo × β → Out Empty (KSo × δ)} {W : Int → γ → δ → Prop} {D : β → Prop} {D' : δ → Prop}
set_option maxRecDepth 20000 in
/-- a part of the tape with a limit of its own -/
theorem Sm.bindW (hl : L' ≤ L) (h : Sm a L' f S D F G V) (hk : ∀ q x y, a ≤ q → q ≤ L' → V q x y → Sm q L f T D' (K x) (H (KSo.mk q L' false f, y)) W) (he : ∀ t, S t → ∃ t', E t = .thr t' ∧ T t') (hd : ∀ q y, a ≤ q → q ≤ L' → D y → Dd q L f D' (H (KSo.mk q L' true f, y))) : Sm a L f T D' (obind2 F K E) (obind G H) W := by
  rcases h with ⟨q, x, y, e1, e2, e3, e4, e5⟩ | ⟨t, q, y, e1, e2, e3, e4, e5, e6⟩
  · rw [e1, e2, obind2_ret, obind_ret]; exact (hk q x y e3 e4 e5).low e3
  · obtain ⟨t', k1, k2⟩ := he t e2
    obtain ⟨y', k3, k4⟩ := hd q y e4 e5 e6
    rw [e1, e3, obind2_thr, obind_ret, k1]; exact Or.inr ⟨t', q, y', rfl, k2, k3, e4, by omega, k4⟩
set_option maxRecDepth 20000 in
theorem PrR.bindW (hl : L' ≤ L) {P : Out (KRf × KMc) (KRf × KMc × α)} {Q : Out Empty (KSo × β)} {V0 : α → β → Prop} {K : KRf × KMc × α → Out τ γ} {E : KRf × KMc → Out τ γ} (h : PrR st a L' f r P Q V0 D) (hs : 0 ≤ st) (hk : ∀ q b v, a + st ≤ q → q ≤ L' → V0 b v → Sm q L f T D' (K (r, KMc.mk q L', b)) (H (KSo.mk q L' false f, v)) W) (he : ∀ c, ∃ t', E (1, c) = .thr t' ∧ T t') (hd : ∀ q v, a ≤ q → q ≤ L' → D v → Dd q L f D' (H (KSo.mk q L' true f, v))) : Sm a L f T D' (obind2 P K E) (obind Q H) W := by
  rcases h with ⟨q, b, v, e1, e2, e3, e4, e5⟩ | ⟨c, q, v, e1, e2, e3, e4, e5⟩
  · rw [e1, e2, obind2_ret, obind_ret]; exact (hk q b v e3 e4 e5).low (by omega)
  · obtain ⟨t', k1, k2⟩ := he c
    obtain ⟨y', k3, k4⟩ := hd q v e3 e4 e5
    rw [e1, e2, obind2_thr, obind_ret, k1]; exact Or.inr ⟨t', q, y', rfl, k2, k3, e3, by omega, k4⟩
/-- the class has failed, and stands under a limit of its own until the end of the part -/
def Dw {β : Type} (f : Nat → Int32) (a L : Int) (G : Out Empty (KSo × β)) : Prop := ∃ y, G = .ret (KSo.mk a L true f, y)
end BW
section FNB
variable {fu g : Nat} {f : Nat → Int32} {L n r : Int} {st lcs : Nat → Int}
set_option maxRecDepth 20000 in
theorem lp_loc (hfu : 70 < fu) (hL : L ≤ 2000) (hg : g < 30) {N : Nat} (hN : N ≤ 60) {x1 : KSo × Int64} (hx1 : x1.2.toInt32.toInt = N) {x8 : KRf × KMc × Int} (hx8 : x8.2.2 = N) {zk : KMk} {ze : KMe} {C : Int} {ca ce : Nat → Int} {S : Nat → Nat → Prop} : ∀ (j k c : Nat) (a : Int) (lo : Nat → Int) (ml : Nat → Nat → Int) (lcm : Nat → Int) (n1 n2 : Nat), k + j = N → 0 ≤ a → a ≤ L → c ≤ 60 → lcm g = c → j < n1 → j < n2 → LRel (fun i p => S i p ∨ (i = g ∧ p < c)) lo ml →
    Sm a L f (fun t => t.1 = 1) (fun _ => True) (L72_Mo_codeOf fu zk (KMt.mk f n) ze g x8 n1 r (KMc.mk a L) (KMj.mk C ca ce lcm) ml k) (L18_BR_readLocals fu g x1 n2 (KSo.mk a L false f) (KWj.mk st lcs lo) c k) (fun q x y => ∃ (c' : Nat) (lo' : Nat → Int) (ml' : Nat → Nat → Int) (lcm' : Nat → Int), x = (r, KMc.mk q L, KMj.mk C ca ce lcm', ml', (N : Int)) ∧ y = (KWj.mk st lcs lo', (c' : Int), (N : Int)) ∧ c' ≤ 60 ∧ lcm' g = c' ∧ (∀ i, i ≠ g → lcm' i = lcm i) ∧ LRel (fun i p => S i p ∨ (i = g ∧ p < c')) lo' ml') := by
  intro j
  induction j with
  | zero =>
    intro k c a lo ml lcm n1 n2 hk h0 h1 hc hlc hn1 hn2 hR
    obtain ⟨n1, rfl⟩ : ∃ q, n1 = q + 1 := ⟨n1 - 1, by omega⟩
    obtain ⟨n2, rfl⟩ : ∃ q, n2 = q + 1 := ⟨n2 - 1, by omega⟩
    obtain rfl : k = N := by omega
    rw [mr_end (by omega), cr_end (by omega)]
    exact Sm.ret h1 ⟨c, lo, ml, lcm, rfl, rfl, hc, hlc, fun _ _ => rfl, hR⟩
  | succ j ih =>
    intro k c a lo ml lcm n1 n2 hk h0 h1 hc hlc hn1 hn2 hR
    obtain ⟨n1, rfl⟩ : ∃ q, n1 = q + 1 := ⟨n1 - 1, by omega⟩
    obtain ⟨n2, rfl⟩ : ∃ q, n2 = q + 1 := ⟨n2 - 1, by omega⟩
    obtain ⟨E, hE, e⟩ := mr_step (fu := fu) (zk := zk) (t := KMt.mk f n) (ze := ze) (x8 := x8) (c := KMc.mk a L) (cs := ca) (ca := ca) (ce := ce) (lcm := lcm) (C := C) (zl := ml) (m := c) (k := k) (n1 := n1) (r := r) (by omega) hg hlc hc (by omega)
    rw [e, cr_step (by omega) hc (by omega)]
    refine PrR.bind (pr_run hc (by omega) h0 h1 hL) (by decide) ?_ (fun c => ⟨_, rfl, hE _⟩) ?_
    · rintro q M v h2 h3 ⟨k1, k2, k3⟩
      obtain ⟨M, rfl⟩ := Int.eq_ofNat_of_zero_le k2
      dsimp only
      refine PrR.bind (pr_vt (by omega) h3 hL) (by decide) ?_ (fun c => ⟨_, rfl, hE _⟩) ?_
      · rintro q2 ty v2 h4 h5 ⟨rfl, hty⟩
        dsimp only
        obtain ⟨lo', ml', e1, e2, e3⟩ := lp_lw (fu := fu) (st := st) (lcs := lcs) hg (zj := KMj.mk C ca ce lcm) (c := c) (N := M) hlc (by omega) hty (x16 := (KSo.mk q L false f, v)) (x18 := (KSo.mk q2 L false f, ty)) (x94 := (r, KMc.mk q L, (M : Int))) (x102 := (r, KMc.mk q2 L, ty)) k1 rfl rfl rfl M 0 _ lo ml fu fu (by omega) (by omega) (by omega) hR
        have e1 : L52_BR_readLocals fu (g : Int) (KSo.mk q L false f, v) (KSo.mk q2 L false f, ty) fu (KWj.mk st lcs lo) (c : Int) 0 = .ret (KWj.mk st lcs lo', ((c + M : Nat) : Int), (M : Int)) := e1
        have e2 : L123_Mo_codeOf fu (g : Int) (KMj.mk C ca ce lcm) (r, KMc.mk q L, (M : Int)) (r, KMc.mk q2 L, ty) fu ml 0 = .ret (ml', (M : Int)) := e2
        rw [e1, e2, obind2_ret, obind_ret]
        dsimp only
        rw [if_pos (show R32 ((c : Int) + M) by omega)]
        have := ih (k + 1) (c + M) q2 lo' ml' (updZ lcm g ((c : Int) + M)) n1 n2 (by omega) (by omega) h5 (by omega) (by rw [updZ_s]; omega) (by omega) (by omega) (e3.sub (fun i p w => by
          rcases w with w | ⟨w1, w2⟩
          · exact Or.inl (Or.inl w)
          · by_cases u : p < c
            · exact Or.inl (Or.inr ⟨w1, u⟩)
            · exact Or.inr ⟨w1, by omega, w2⟩))
        refine this.mono ?_
        rintro q3 x y _ _ ⟨c', lo2, ml2, lcm2, f1, f2, f3, f4, f5, f6⟩
        exact ⟨c', lo2, ml2, lcm2, f1, f2, f3, f4, fun i hi => by rw [f5 i hi, updZ_n hi], f6⟩
      · intro q2 v2 h4 h5 _
        obtain ⟨lo', e1⟩ := cw_dead (fu := fu) (st := st) (lcs := lcs) hg (x16 := (KSo.mk q L false f, v)) (x18 := (KSo.mk q2 L true f, v2)) (N := M) k1 M 0 c lo fu (by omega) (by omega) (by omega) (by omega)
        have e1 : L52_BR_readLocals fu (g : Int) (KSo.mk q L false f, v) (KSo.mk q2 L true f, v2) fu (KWj.mk st lcs lo) (c : Int) 0 = .ret (KWj.mk st lcs lo', ((c + M : Nat) : Int), (M : Int)) := e1
        dsimp only
        rw [e1, obind_ret]
        exact cr_dead (by omega) hx1 hN j (k + 1) (c + M) _ n2 (by omega) (by omega) (by omega)
    · rintro q v h2 h3 rfl
      dsimp only
      obtain ⟨v2, e2⟩ := so_vtD (f := f) (a := q) (L := L)
      obtain ⟨m, hm⟩ : ∃ q, fu = q + 1 := ⟨fu - 1, by omega⟩
      have e3 : L52_BR_readLocals fu (g : Int) (KSo.mk q L true f, 0) (KSo.mk q L true f, v2) fu (KWj.mk st lcs lo) (c : Int) 0 = .ret (KWj.mk st lcs lo, (c : Int), 0) := by
        have := cw_end (fu := fu) (g := g) (x16 := (KSo.mk q L true f, 0)) (x18 := (KSo.mk q L true f, v2)) (w := KWj.mk st lcs lo) (sz := c) (k := 0) (n2 := m) (by show (0 : Int64).toInt32.toInt ≤ 0; decide)
        rw [← hm] at this; exact this
      rw [e2, obind_ret, e3, obind_ret]
      exact cr_dead (by omega) hx1 hN j (k + 1) c _ n2 (by omega) hc (by omega)
/-- what class and reference have of a function -/
def FnOk (f : Nat → Int32) (C : KCo) (M : KMe) (st lcs lo ca ce lcm : Nat → Int) (ml : Nat → Nat → Int) (a : Int) (e : Nat) (l0 l1 : Int) (g : Nat) : Prop := ∃ s : Nat, st g = s ∧ TB C.ops C.extras C.values l0 l1 s e ∧ l1 ≤ C.labelCount ∧ BodyOk f C M s e (ca g) (ce g) ∧ (e : Int) < C.size ∧ lcs g = lcm g ∧ 0 ≤ lcm g ∧ lcm g ≤ 60 ∧ (∀ k : Nat, (k : Int) < lcm g → lo (g * 60 + k) = ml g k ∧ (ml g k = 127 ∨ ml g k = 126)) ∧ ce g ≤ a
set_option maxRecDepth 20000 in
theorem BodyOk.fr {C C' : KCo} {M M' : KMe} {s e s' : Nat} {p0 q p1 : Int} (h : BodyOk f C M s e p0 q) (hs : e < s') (hq : q ≤ p1) (hf : FrC s' p1 C M C'.ops C'.extras C'.ends C'.elses C'.labels C'.values C'.labelCount M'.endOf M'.elseOf) : BodyOk f C' M' s e p0 q := by
  obtain ⟨h1, pos, stk, h2, h3, h4, h5, h6, h7, h8, h9, h10⟩ := h
  obtain ⟨f1, f2, f3, f4⟩ := hf
  have ag : ∀ j, j < e → C'.ops j = C.ops j ∧ C'.ends j = C.ends j ∧ C'.elses j = C.elses j := fun j hj => by
    obtain ⟨g1, g2, g3, g4, g5⟩ := f1 j (by omega)
    exact ⟨g1, g4, g5⟩
  refine ⟨h1, pos, stk, h2, ?_, ?_, h5, ?_, ?_, h8, h9, h10⟩
  · exact h3.cg (fun j hj => by
      obtain ⟨g1, g2, g3, g4, g5⟩ := f1 j (by omega)
      exact ⟨g1, g2, g3⟩) f2 f3 (fun _ _ _ => rfl)
  · exact h4.cg h1 ag (fun _ _ => rfl)
  · have := h6.cg h4 ag (fun _ _ => rfl) (fun _ _ => rfl)
    intro o a b c
    obtain ⟨k1, k2⟩ := this o a b c
    have hlt : pos o < pos e := h3.lt' a b (by omega)
    have h0 := (h3 o a b).1
    rw [(f4 (pos o).toNat (by omega)).1, (f4 (pos o).toNat (by omega)).2]
    exact ⟨k1, k2⟩
  · rw [(f1 e hs).1]; exact h7
end FNB

/-! THE CODE: functions, one after the other -/
set_option maxRecDepth 20000 in
theorem Dd.bindW {β δ : Type} {a L L' : Int} {f : Nat → Int32} {G : Out Empty (KSo × β)} {H : KSo × β → Out Empty (KSo × δ)} {D : β → Prop} {D' : δ → Prop} (h : Dd a L' f D G) (hk : ∀ y, D y → Dd a L f D' (H (KSo.mk a L' true f, y))) : Dd a L f D' (obind G H) := by
  obtain ⟨y, e, hy⟩ := h; rw [e, obind_ret]; exact hk y hy
set_option maxRecDepth 20000 in
theorem widT {a L o : Int} {f : Nat → Int32} : f_So_widen (KSo.mk a L true f) o = .ret (KSo.mk a o true f) := by
  rw [wid, show (if a = L then true else true) = true from ite_self _]
section FNC
variable {fu g i lc : Nat} {f : Nat → Int32} {a L n r Cc : Int} {st lcs lo ca ce lcm ops es en el lab hs ts lt op bl eo xo : Nat → Int} {vs : Nat → Int64} {ml : Nat → Nat → Int} {S : Nat → Nat → Prop}
set_option maxRecDepth 20000 in
theorem LInv.init {q : Int} (hi : (i : Int) ≤ q) : LInv f i q (KCo.mk i ops vs es en el lc lab) (KMe.mk eo xo) i q ops es en el lab op bl eo xo (fun _ => q) vs lc (fun _ => []) :=
  ⟨Nat.le_refl _, hi, rfl, rfl, fun j a b => absurd a (by omega), ⟨rfl, fun j a b => absurd a (by omega), fun j a b => absurd a (by omega), trivial⟩, fun j a b => absurd a (by omega), trivial, Nat.zero_le _, fun j _ => ⟨rfl, rfl, rfl, rfl, rfl⟩, fun _ _ => rfl, Int.le_refl _, fun _ _ => ⟨rfl, rfl⟩⟩
set_option maxRecDepth 20000 in
theorem fn_body (hB : BB f) (hfu : 2100 < fu) (h0 : 0 ≤ a) (h1 : a ≤ L) (hL : L ≤ 2000) (hg : g < 30) (hi : (i : Int) ≤ a) (hlc : (lc : Int) ≤ a) (hR : LRel S lo ml) :
    Sm a L f (fun t => t.1 = 1) (fun _ => True) (f_Mo_codeOf fu r (KMc.mk a L) bl (KMt.mk f n) (KMj.mk Cc ca ce lcm) ml (KMe.mk eo xo) g)
      (obind (f_So_narrow fu (KSo.mk a L false f)) (fun x17 => obind (f_BR_readLocals fu x17.1 (KWj.mk st lcs lo) g) (fun x19 => obind (L73_BR_readAll fu fu x19.1 (KCo.mk i ops vs es en el lc lab) (KCt.mk hs ts lt) (KBR.mk op 0) true 0) (fun y26 => obind (f_So_widen y26.1 x17.2) (fun x27 => .ret (x27, y26.2.1, y26.2.2.1, KWj.mk (updZ x19.2.starts g i) x19.2.localCounts x19.2.locals, y26.2.2.2.1))))))
      (fun q x y => ∃ (p0 : Int) (bl' : KMk) (M' : KMe) (C' : KCo) (Ct' : KCt) (BR' : KBR) (e lc' c' : Nat) (lo' lcm' : Nat → Int) (ml' : Nat → Nat → Int), x = (r, KMc.mk q L, bl', KMj.mk Cc (updZ ca g p0) (updZ ce g q) lcm', ml', M') ∧ y = (C', Ct', KWj.mk (updZ st g i) (updZ lcs g c') lo', BR') ∧ C'.size = ((e + 1 : Nat) : Int) ∧ (e : Int) + 1 ≤ q ∧ C'.labelCount = lc' ∧ (lc' : Int) ≤ q ∧ BodyOk f C' M' i e p0 q ∧ FrC i p0 (KCo.mk i ops vs es en el lc lab) (KMe.mk eo xo) C'.ops C'.extras C'.ends C'.elses C'.labels C'.values C'.labelCount M'.endOf M'.elseOf ∧ TB C'.ops C'.extras C'.values lc C'.labelCount i e ∧ a ≤ p0 ∧ c' ≤ 60 ∧ lcm' g = c' ∧ (∀ i, i ≠ g → lcm' i = lcm i) ∧ LRel (fun i p => (S i p ∧ i ≠ g) ∨ (i = g ∧ p < c')) lo' ml') := by
  have hgg : (0 : Int) ≤ g ∧ (g : Int) < 30 := by omega
  unfold f_Mo_codeOf f_BR_readLocals
  simp only [jp_ite]
  simp only [jp, rd_ite, rd_ite', if_pos hgg, Int.toNat_natCast, obind_as, obind_ret]
  have dd : ∀ (q L' : Int) (w : KWj) (c : Nat), Dd q L f (fun _ => True) (obind (L73_BR_readAll fu fu (KSo.mk q L' true f) (KCo.mk i ops vs es en el lc lab) (KCt.mk hs ts lt) (KBR.mk op 0) true 0) (fun y26 => obind (f_So_widen y26.1 L) (fun x27 => .ret (x27, y26.2.1, y26.2.2.1, KWj.mk (updZ w.starts g i) (updZ w.localCounts g c) w.locals, y26.2.2.2.1)))) := by
    intro q L' w c
    refine Dd.bindW (ra_dead (k := 0) (by omega)) (fun y _ => ?_)
    dsimp only
    rw [widT, obind_ret]
    exact Dd.ret trivial
  have dd0 : ∀ (q L' : Int), Dd q L f (fun _ => True) (obind (L18_BR_readLocals fu g (KSo.mk q L' true f, 0) fu (KSo.mk q L' true f) (KWj.mk st lcs lo) 0 0) (fun y => obind (L73_BR_readAll fu fu y.1 (KCo.mk i ops vs es en el lc lab) (KCt.mk hs ts lt) (KBR.mk op 0) true 0) (fun y26 => obind (f_So_widen y26.1 L) (fun x27 => .ret (x27, y26.2.1, y26.2.2.1, KWj.mk (updZ y.2.1.starts g i) (updZ y.2.1.localCounts g y.2.2.1) y.2.1.locals, y26.2.2.2.1))))) := by
    intro q L'
    obtain ⟨m, hm⟩ : ∃ q, fu = q + 1 := ⟨fu - 1, by omega⟩
    have e : L18_BR_readLocals fu g (KSo.mk q L' true f, 0) fu (KSo.mk q L' true f) (KWj.mk st lcs lo) 0 0 = .ret (KSo.mk q L' true f, KWj.mk st lcs lo, 0, 0) := by
      have := cr_end (fu := fu) (g := g) (x1 := (KSo.mk q L' true f, 0)) (z := KSo.mk q L' true f) (w := KWj.mk st lcs lo) (sz := 0) (k := 0) (n2 := m) (by show (0 : Int64).toInt32.toInt ≤ 0; decide)
      rw [← hm] at this; exact this
    rw [e, obind_ret]
    exact dd q L' (KWj.mk st lcs lo) 0
  rcases pr_cnt (fu := fu) (f := f) (a := a) (L := L) (r := r) (n := n) (by omega) h0 h1 hL with ⟨q, w, w', e1, e2, e3, e4, rfl, e5⟩ | ⟨c, q, v, e1, e2, e3, e4, rfl⟩
  · have hw : w.toInt = (uL w : Int) := uL_toInt (by omega)
    rw [e1, obind2_ret, nar_ok e2 (by omega) e4 hL e5]
    dsimp only
    rw [if_pos (show R32 (L - q) by omega)]
    have hlt : ((iI (L - q)).toInt64).toInt < w.toInt ↔ L - q < uL w := by rw [Int32.toInt_toInt64, iI_t (by omega), hw]
    refine Sm.low (b := q) ?_ (by omega)
    by_cases c : (uL w : Int) ≤ L - q
    · have eE : (iI q + w.toInt32).toInt = q + uL w := by
        have e2 : w.toInt32 = iI (uL w) := by
          apply Int32.toInt_inj.mp
          rw [uL_i32 (by omega), iI_t (by omega)]
        rw [e2, iI_add, iI_t (by omega)]
      rw [if_pos c, if_neg (fun h => absurd (hlt.mp h) (by omega)), obind_ret]
      have eE' : (iI (KMc.mk q L).cursor + w.toInt32).toInt = q + uL w := eE
      simp only [eE']
      generalize hL' : q + (uL w : Int) = L'
      have hLL : L' ≤ L := by omega
      refine PrR.bindW hLL (pr_few (by decide) (by omega) (by omega) (by omega) (by omega)) (by decide) ?_ (fun c => ⟨_, rfl, rfl⟩) ?_
      · rintro q1 N v h2 h3 ⟨k1, k2, k3, k4⟩
        have k4 : N ≤ 60 := k4
        obtain ⟨N, rfl⟩ := Int.eq_ofNat_of_zero_le k3
        dsimp only
        refine Sm.bindW hLL (lp_loc (S := fun i p => S i p ∧ i ≠ g) (x1 := (KSo.mk q1 L' false f, v)) (x8 := (r, KMc.mk q1 L', (N : Int))) (by omega) (by omega) hg (N := N) (by omega) k2 rfl N 0 0 q1 lo ml (updZ lcm g 0) fu fu (by omega) (by omega) h3 (by omega) (updZ_s _ _ _) (by omega) (by omega) (hR.sub (fun i p w => by
          rcases w with w | ⟨_, w⟩
          · exact w.1
          · exact absurd w (by omega)))) ?_ (fun t ht => ⟨t, rfl, ht⟩) ?_
        · rintro q2 x y h4 h5 ⟨c', lo', ml', lcm', rfl, rfl, f3, f4, f5, f6⟩
          dsimp only
          refine Sm.bindW hLL (lp_body (fu := fu) hB (by omega) (show L' ≤ 2000 by omega) 2000 i 0 lc q2 ops es en el lab hs ts lt op bl eo xo (fun _ => q2) vs (fun _ => []) fu fu (by omega) (by omega) h5 (by omega) (by omega) (by omega) (by omega) (LInv.init (by omega)) (l0 := lc) ⟨Int.le_refl _, fun j a b => absurd a (by omega)⟩) ?_ (fun t ht => ⟨t, rfl, ht⟩) ?_
          · rintro q3 x y h6 h7 ⟨bl', M', C', Ct', BR', k', e, lc', rfl, rfl, g1, g2, g3, g4, g5, g6, g7⟩
            dsimp only
            rw [wid, obind_ret]
            by_cases cc : q3 = L'
            · rw [if_pos cc, if_pos cc]
              subst cc
              exact Sm.ret (by omega) ⟨q2, bl', M', C', Ct', BR', e, lc', c', lo', lcm', ml', rfl, rfl, g1, g2, g3, g4, g5, g6, g7, by omega, f3, f4, fun i hi => by rw [f5 i hi, updZ_n hi], f6⟩
            · rw [if_neg cc, if_neg cc]
              exact Sm.thr (by omega) rfl (Dd.ret trivial)
          · intro q3 y h6 h7 _
            dsimp only
            rw [widT, obind_ret]
            exact Dd.ret trivial
        · rintro q2 ⟨w2, c2, k2⟩ h4 h5 _
          dsimp only
          refine Dd.bindW (ra_dead (k := 0) (by omega)) (fun y _ => ?_)
          dsimp only
          rw [widT, obind_ret]
          exact Dd.ret trivial
      · rintro q1 v h2 h3 rfl
        exact dd0 q1 L'
    · rw [if_neg c, if_pos (hlt.mpr (by omega)), obind_ret]
      refine Sm.thr e4 rfl ?_
      dsimp only
      rw [so_unsD (by omega), obind_ret]
      exact dd0 q L
  · rw [e1, obind2_thr, nar_bad (z := KSo.mk a L true f) e2 (by omega) e4 hL, obind_ret]
    refine Sm.low (b := q) (Sm.thr e4 rfl ?_) e3
    dsimp only
    rw [so_unsD (by omega), obind_ret]
    exact dd0 q q
end FNC
