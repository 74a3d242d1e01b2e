/-! VALID: the class: ends, branches, returns; every instruction -/
section CCT
variable {fu g i : Nat} {R : SS} {N : Nat} {bo : KBo} {bt : KBt} {x : Fr} {C : KCo} {Ct : KCt} {W1 : KW1} {W3 : KW3} {Wj : KWj} {W5 : KW5} {W6 : KW6} {M1 : KM1} {Mp : KMp} {M3 : KM3} {Mj : KMj} {Ml : KMl} {M5 : KM5} {M6 : KM6} {o : Int} {stk : List Nat} {lab : Nat → Int} {v : Int64} {e : Int}
set_option maxRecDepth 20000 in
theorem c_c11 {k4 : Prop} [Decidable k4] {w : Fr} {R' : SS} {o9 : Nat} {t9 : List Nat} (hst : stk = o9 :: t9) (hRe : R = w :: R') (hlen : t9.length = R'.length) (ho9 : o9 < 2000) (hk : k4 ↔ (C.ops o9 = 4 ∧ C.elses o9 < 0)) (hB : BOk bo (x :: R)) (hT : RT bt (x :: R)) (hO : OPv bo.openers stk) (hn : tot (x :: R) ≤ N) (hN : N < 2000) : Cx g (N + 1) t9 (CtS Ct i 11 v e lab stk) (f_BV_checkControl fu C Ct W1 W3 (KBV.mk (g : Int) false) bt bo 11 i) ((popO x.2.2.2 x).bind (fun y => if y.1 = [] ∧ (k4 → x.2.2.2 = 0) then (match R with | [] => none | w :: R' => some (pushA x.2.2.2 w :: R')) else none)) := by
  subst hst hRe
  obtain ⟨o1, o2⟩ := hO
  have eo : bo.openers (w :: R').length = (o9 : Int) := by rw [List.length_cons, ← hlen]; exact o1
  have e : f_BV_checkControl fu C Ct W1 W3 (KBV.mk (g : Int) false) bt bo 11 i = obind (f_BV_closeBlock C (KBV.mk (g : Int) false) bt bo) (fun x_5 => .ret (Ct, x_5.1, x_5.2.1, x_5.2.2)) := by
    unfold f_BV_checkControl
    simp only [jp, Int.reduceEq, reduceIte]
  rw [e]
  rcases c_close (g := g) (C := C) (k4 := k4) (Or.inr (by rw [eo]; omega)) (by rw [eo, Int.toNat_natCast]; constructor; exact fun q => ⟨by omega, hk.mp q⟩; exact fun q => hk.mpr q.2) hB hT hn hN with ⟨y, bt', f1, f2, f3, f4, f5, f6⟩ | ⟨f1, bt', bo', f2⟩
  · rw [f6, f1]
    dsimp only [Option.bind]
    rw [if_pos ⟨f2, f3⟩]
    have hB7 := hB.1.2.2.2.2.2.2
    have hT' : RT bt' (w :: R') := by
      obtain ⟨a, b⟩ := f4
      have hfl : flat (y :: w :: R') = flat (w :: R') := by show y.1 ++ flat (w :: R') = _; rw [f2]; rfl
      exact ⟨by rw [a]; unfold tot; rw [hfl], by rw [← hfl]; exact b⟩
    have hn' : tot (w :: R') ≤ N := by rw [tot_cons] at f5; omega
    obtain ⟨bt2, g1, g2, g3⟩ := c_push (g := (g : Int)) hB.1.2.2.2.2.2.1 hT' hn' hN
    rw [g1, obind_ret, obind_ret]
    have h8 := hB.2.1
    have h9 := hB.2.2
    rw [List.length_cons, List.length_cons] at h8 h9
    refine Or.inl ⟨_, _, _, _, rfl, rfl, g2, ?_, o2, g3, CtS.rf (by omega) (by decide) (by decide) (by decide)⟩
    have b0 : BOk (KBo.mk bo.openers bo.bases bo.blockTypes bo.labelTypes bo.unreachable (bo.openCount - 1)) (w :: R') := ⟨ROc.cg (bo := bo) _ (fun k hk => ⟨rfl, rfl, rfl, rfl⟩) hB7, by show bo.openCount - 1 = _; rw [List.length_cons]; omega, by rw [List.length_cons]; omega⟩
    refine b0.vs ?_
    unfold pushA
    split <;> rfl
  · rw [f2, obind_ret]
    refine Cx.no ?_ ⟨_, _, _, rfl⟩
    cases ep : popO x.2.2.2 x with
    | none => rfl
    | some y =>
      dsimp only [Option.bind]
      rw [if_neg (fun q => f1 ⟨y, ep, q.1, q.2⟩)]
set_option maxRecDepth 20000 in
/-- a branch -/
theorem c_c12 (hi : i < 2000) (hv : C.values i = v) (h0 : 0 ≤ v.toInt) (h1 : v.toInt ≤ 2147483647) (hs : stk.length = R.length) (hB : BOk bo (x :: R)) (hT : RT bt (x :: R)) (hO : OPv bo.openers stk) (hn : tot (x :: R) ≤ N) (hN : N < 2000) : Cx g (N + 1) stk (CtS Ct i 12 v e lab stk) (f_BV_checkControl fu C Ct W1 W3 (KBV.mk (g : Int) false) bt bo 12 i) ((labA (x :: R) v.toInt).bind (fun l => (popO l x).map (fun y => loseA y :: R))) := by
  obtain ⟨hc, ts, lt⟩ := Ct
  have hii : (0 : Int) ≤ i ∧ (i : Int) < 2000 := by omega
  unfold f_BV_checkControl
  simp only [jp, Int.reduceEq, reduceIte]
  rw [id4]
  unfold f_BV_checkBranch
  simp only [jp, Int.reduceEq, reduceIte, if_pos hii, Int.toNat_natCast, hv]
  rw [c_lev hB.2.1 hB.2.2 h0 h1, obind_ret]
  cases hl : labA (x :: R) v.toInt with
  | none =>
    rw [if_neg (labA_none h0 hl), if_neg (by decide)]
    exact Cx.no rfl ⟨_, _, _, rfl⟩
  | some l =>
    obtain ⟨w, w1, w2, w3⟩ := labA_some h0 hl
    obtain ⟨k1, k2, k3⟩ := ROc.get _ _ _ w1 hB.1
    have hlen := hB.2.2
    rw [if_pos w3]
    have eL : ((((x :: R).length : Nat) : Int) - 1 - v.toInt).toNat = (x :: R).length - 1 - v.toInt.toNat := by omega
    rw [if_pos (by omega), if_pos (by omega), if_pos (by omega), eL, k2, w2]
    rw [w2] at k3
    have et : bo.openers ((x :: R).length - 1 - v.toInt.toNat) = tgt stk v.toInt.toNat := by
      rw [List.length_cons] at w3 ⊢
      rw [show R.length + 1 - 1 - v.toInt.toNat = stk.length - v.toInt.toNat by omega]
      exact hO.get stk _ (by omega)
    rw [et]
    dsimp only [Option.bind]
    rcases c_popO (g := (g : Int)) k3 hT hB.1 hB.2.1 hB.2.2 hn (by omega) with ⟨y, bt', v', f1, f2, f3, f4⟩ | ⟨bt', v', f1, f2, f3⟩
    · rw [f1, f2, obind_ret]
      dsimp only
      obtain ⟨bt2, bo2, g1, g2, g3, g4, g5⟩ := c_lose (hB.vs (popO_snd f1)) f3 f4
      rw [g1, obind_ret]
      exact Or.inl ⟨_, _, _, _, rfl, rfl, g2, g3, by dsimp only; rw [g4]; exact hO, (by show tot (loseA _ :: R) ≤ N + 1; omega), fun j hj => ⟨rfl, updZ_n hj⟩, fun h => by omega, fun _ => updZ_s _ _ _, fun h => by omega, fun _ _ => rfl⟩
    · rw [f1, f2, obind_ret]
      dsimp only
      obtain ⟨bt2, bo2, g1⟩ := d_lose (bt := bt') hB
      rw [g1, obind_ret]
      exact Cx.no rfl ⟨_, _, _, rfl⟩
set_option maxRecDepth 20000 in
theorem c_c13 (hi : i < 2000) (hv : C.values i = v) (h0 : 0 ≤ v.toInt) (h1 : v.toInt ≤ 2147483647) (hs : stk.length = R.length) (hB : BOk bo (x :: R)) (hT : RT bt (x :: R)) (hO : OPv bo.openers stk) (hn : tot (x :: R) ≤ N) (hN : N < 2000) : Cx g (N + 1) stk (CtS Ct i 13 v e lab stk) (f_BV_checkControl fu C Ct W1 W3 (KBV.mk (g : Int) false) bt bo 13 i) ((labA (x :: R) v.toInt).bind (fun l => (popA 127 x).bind (fun y => (popO l y.2).map (fun z => pushA l z :: R)))) := by
  obtain ⟨hc, ts, lt⟩ := Ct
  have hii : (0 : Int) ≤ i ∧ (i : Int) < 2000 := by omega
  unfold f_BV_checkControl
  simp only [jp, Int.reduceEq, reduceIte]
  rw [id4]
  unfold f_BV_checkBranch
  simp only [jp, Int.reduceEq, reduceIte, if_pos hii, Int.toNat_natCast, hv]
  -- behind the first value, alive or not
  have dead : ∀ bt', Hb bt' → ∃ ct bt2 bo2, obind (f_BV_levelOf bo v) (fun x_4 => if 0 ≤ x_4 then (if 0 ≤ x_4 ∧ x_4 < 101 then if 0 ≤ x_4 ∧ x_4 < 101 then obind (f_BV_pop (KBV.mk (g : Int) true) bt' bo (bo.labelTypes x_4.toNat)) (fun x_10 => if 0 ≤ x_4 ∧ x_4 < 101 then obind (f_BV_push x_10.1 x_10.2.1 (bo.labelTypes x_4.toNat)) (fun x_18 => .ret (KCt.mk hc (updZ ts i (bo.openers x_4.toNat)) lt, x_18.1, x_18.2, bo)) else .bad) else .bad else .bad) else (.ret ((hc, ts, lt), KBV.mk (KBV.mk (g : Int) true).function true, bt', bo) : Out Empty (KCt × KBV × KBt × KBo))) = .ret (ct, KBV.mk (g : Int) true, bt2, bo2) := by
    intro bt' hb
    have hlen := hB.2.2
    rw [c_lev hB.2.1 hB.2.2 h0 h1, obind_ret]
    by_cases c : v.toInt < ((x :: R).length : Nat)
    · rw [if_pos c, if_pos (by omega), if_pos (by omega), if_pos (by omega)]
      obtain ⟨b2, v2, e2, h2⟩ := d_pop2 (g := (g : Int)) (w := bo.labelTypes ((((x :: R).length : Nat) : Int) - 1 - v.toInt).toNat) hB hb
      rw [e2, obind_ret, if_pos (by omega)]
      obtain ⟨b3, e3, _⟩ := d_push (g := (g : Int)) (t := bo.labelTypes ((((x :: R).length : Nat) : Int) - 1 - v.toInt).toNat) h2
      rw [e3, obind_ret]
      exact ⟨_, _, _, rfl⟩
    · rw [if_neg c, if_neg (by decide)]; exact ⟨_, _, _, rfl⟩
  rcases c_pop2 (g := (g : Int)) (show Ty0 127 by decide) hB hT hn (by omega) with ⟨y, bt', e1, e2, e3, e4, e5⟩ | ⟨bt', v', e1, e2, e3⟩
  · rw [e1, e2, obind_ret]
    dsimp only
    have hB' := hB.vs (popA_snd e1)
    rw [c_lev hB.2.1 hB.2.2 h0 h1, obind_ret]
    cases hl : labA (x :: R) v.toInt with
    | none =>
      rw [if_neg (labA_none h0 hl), if_neg (by decide)]
      exact Cx.no rfl ⟨_, _, _, rfl⟩
    | some l =>
      obtain ⟨w, w1, w2, w3⟩ := labA_some h0 hl
      obtain ⟨k1, k2, k3⟩ := ROc.get _ _ _ w1 hB.1
      have hlen := hB.2.2
      rw [if_pos w3]
      have eL : ((((x :: R).length : Nat) : Int) - 1 - v.toInt).toNat = (x :: R).length - 1 - v.toInt.toNat := by omega
      rw [if_pos (by omega), if_pos (by omega), if_pos (by omega), eL, k2, w2]
      rw [w2] at k3
      have et : bo.openers ((x :: R).length - 1 - v.toInt.toNat) = tgt stk v.toInt.toNat := by
        rw [List.length_cons] at w3 ⊢
        rw [show R.length + 1 - 1 - v.toInt.toNat = stk.length - v.toInt.toNat by omega]
        exact hO.get stk _ (by omega)
      rw [et]
      dsimp only [Option.bind]
      rcases c_popO (g := (g : Int)) k3 e4 hB'.1 hB'.2.1 hB'.2.2 e5 (by omega) with ⟨z, bt2, v2, f1, f2, f3, f4⟩ | ⟨bt2, v2, f1, f2, f3⟩
      · rw [f1, f2, obind_ret]
        dsimp only
        rw [if_pos (by omega)]
        obtain ⟨bt3, g1, g2, g3⟩ := c_push (g := (g : Int)) k3 f3 f4 hN
        rw [g1, obind_ret]
        refine Or.inl ⟨_, _, _, _, rfl, rfl, g2, ?_, hO, g3, fun j hj => ⟨rfl, updZ_n hj⟩, fun h => by omega, fun _ => updZ_s _ _ _, fun h => by omega, fun _ _ => rfl⟩
        refine (hB'.vs (popO_snd f1)).vs ?_
        unfold pushA
        split <;> rfl
      · rw [f1, f2, obind_ret]
        dsimp only
        rw [if_pos (by omega)]
        obtain ⟨b3, g1, _⟩ := d_push (g := (g : Int)) (t := rT l) f3
        rw [g1, obind_ret]
        exact Cx.no rfl ⟨_, _, _, rfl⟩
  · rw [e1, e2, obind_ret]
    refine Cx.no ?_ (dead bt' e3)
    cases labA (x :: R) v.toInt <;> rfl
set_option maxRecDepth 20000 in
theorem c_c15 (hM : MOk W1 W3 M1 Mp M3) (hg : (g : Int) < M3.functions) (hB : BOk bo (x :: R)) (hT : RT bt (x :: R)) (hO : OPv bo.openers stk) (hn : tot (x :: R) ≤ N) (hN : N < 2000) : Cx g (N + 1) stk (CtS Ct i 15 v e lab stk) (f_BV_checkControl fu C Ct W1 W3 (KBV.mk (g : Int) false) bt bo 15 i) ((popO (res M1 M3 g) x).map (fun y => loseA y :: R)) := by
  unfold f_BV_checkControl
  simp only [jp, Int.reduceEq, reduceIte]
  rw [show KBV.function (KBV.mk (g : Int) false) = (g : Int) from rfl, wa_rs hM hg, obind_ret]
  rcases c_popO (g := (g : Int)) (hM.rs hg) hT hB.1 hB.2.1 hB.2.2 hn (by omega) with ⟨y, bt', v', f1, f2, f3, f4⟩ | ⟨bt', v', f1, f2, f3⟩
  · rw [f1, f2, obind_ret]
    dsimp only
    obtain ⟨bt2, bo2, g1, g2, g3, g4, g5⟩ := c_lose (hB.vs (popO_snd f1)) f3 f4
    rw [g1, obind_ret]
    exact Or.inl ⟨_, _, _, _, rfl, rfl, g2, g3, by dsimp only; rw [g4]; exact hO, (by show tot (loseA _ :: R) ≤ N + 1; omega), CtS.rf (by omega) (by decide) (by decide) (by decide)⟩
  · rw [f1, f2, obind_ret]
    dsimp only
    obtain ⟨bt2, bo2, g1⟩ := d_lose (bt := bt') hB
    rw [g1, obind_ret]
    exact Cx.no rfl ⟨_, _, _, rfl⟩
/-! tables -/
set_option maxRecDepth 20000 in
theorem tl_lev {l : Nat} (hlab : ∀ k : Nat, l ≤ k → k < l + 1 → 0 ≤ lab k ∧ lab k ≤ 2147483647) (hB : BOk bo (x :: R)) : f_BV_levelOf bo ((iI (lab l)).toInt64) = .ret (if lab l < ((x :: R).length : Nat) then (((x :: R).length : Nat) : Int) - 1 - lab l else -1) := by
  obtain ⟨h0, h1⟩ := hlab l (Nat.le_refl _) (by omega)
  have e : ((iI (lab l)).toInt64).toInt = lab l := by rw [Int32.toInt_toInt64, iI_t (by omega)]
  rw [c_lev hB.2.1 hB.2.2 (by omega) (by omega), e]
set_option maxRecDepth 20000 in
theorem c_c14 (hfu : 60 < fu) (hi : i < 2000) (hv : C.values i = v) (he : C.extras i = e) (hlb : C.labels = lab) {nn ll : Nat} (hvn : v = (iI nn).toInt64) (hnn : nn ≤ 50) (hel : e = ll) (hll : ll + nn < 2000) (hlab : ∀ k : Nat, ll ≤ k → k < ll + (nn + 1) → 0 ≤ lab k ∧ lab k ≤ 2147483647) (hs : stk.length = R.length) (hB : BOk bo (x :: R)) (hT : RT bt (x :: R)) (hO : OPv bo.openers stk) (hn : tot (x :: R) ≤ N) (hN : N < 2000) : Cx g (N + 1) stk (CtS Ct i 14 v e lab stk) (f_BV_checkControl fu C Ct W1 W3 (KBV.mk (g : Int) false) bt bo 14 i) ((labA (x :: R) (lab (e.toNat + v.toInt.toNat))).bind (fun last => if tabOk (x :: R) lab last (v.toInt.toNat + 1) e.toNat = true then (popA 127 x).bind (fun y => (popO last y.2).map (fun z => loseA z :: R)) else none)) := by
  obtain ⟨hc, ts, lt⟩ := Ct
  have hii : (0 : Int) ≤ i ∧ (i : Int) < 2000 := by omega
  have ev : v.toInt = (nn : Int) := by rw [hvn, Int32.toInt_toInt64, iI_t (by omega)]
  have ev32 : v.toInt32 = iI nn := by rw [hvn, Int32.toInt32_toInt64]
  have elast : ((iI e) + v.toInt32).toInt = (ll : Int) + nn := by rw [ev32, hel, iI_add, iI_t (by omega)]
  rw [ev, hel, Int.toNat_natCast, Int.toNat_natCast]
  unfold f_BV_checkControl
  simp only [jp, Int.reduceEq, reduceIte]
  rw [id4]
  unfold f_BV_checkTable
  simp only [if_pos hii, Int.toNat_natCast, hv, he, elast]
  rw [if_pos (show (0 : Int) ≤ (ll : Int) + nn ∧ (ll : Int) + nn < 2000 by omega), show ((ll : Int) + nn).toNat = ll + nn by omega, hlb, tl_lev (l := ll + nn) (fun k a b => hlab k (by omega) (by omega)) hB, obind_ret, hel]
  have hlen := hB.2.2
  generalize hlv : (if lab (ll + nn) < (((x :: R).length : Nat) : Int) then (((x :: R).length : Nat) : Int) - 1 - lab (ll + nn) else -1) = lv
  obtain ⟨hz0, hz1⟩ := hlab (ll + nn) (by omega) (by omega)
  -- the loop
  have loop : ∀ (j k n2 : Nat) (lt : Nat → Int), k + j = nn + 1 → j < n2 → ∃ lt', ((∃ last, labA (x :: R) (lab (ll + nn)) = some last ∧ tabOk (x :: R) lab last j (ll + k) = true ∧ L42_BV_checkTable fu C (KBV.mk (g : Int) false) bt bo i lv n2 (KCt.mk hc ts lt) ((ll + k : Nat) : Int) = L42_BV_checkTable fu C (KBV.mk (g : Int) false) bt bo i lv (n2 - j) (KCt.mk hc ts lt') ((ll + (nn + 1) : Nat) : Int) ∧ (∀ q, k ≤ q → q ≤ nn → lt' (ll + q) = tgt stk (lab (ll + q)).toNat) ∧ (∀ l, ¬ (ll + k ≤ l ∧ l ≤ ll + nn) → lt' l = lt l)) ∨ ((∀ last, labA (x :: R) (lab (ll + nn)) = some last → tabOk (x :: R) lab last j (ll + k) = false) ∧ L42_BV_checkTable fu C (KBV.mk (g : Int) false) bt bo i lv n2 (KCt.mk hc ts lt) ((ll + k : Nat) : Int) = .ret (KCt.mk hc ts lt', KBV.mk (g : Int) true, bt, bo) ∧ k ≤ nn) ∨ (labA (x :: R) (lab (ll + nn)) = none ∧ j = 0)) := by
    intro j
    induction j with
    | zero =>
      intro k n2 lt hk hn2
      have : k = nn + 1 := by omega
      subst this
      cases hl : labA (x :: R) (lab (ll + nn)) with
      | none => exact ⟨lt, Or.inr (Or.inr ⟨rfl, rfl⟩)⟩
      | some last => exact ⟨lt, Or.inl ⟨last, rfl, rfl, rfl, fun q a b => by omega, fun l _ => rfl⟩⟩
    | succ j ih =>
      intro k n2 lt hk hn2
      obtain ⟨n2, rfl⟩ : ∃ q, n2 = q + 1 := ⟨n2 - 1, by omega⟩
      obtain ⟨hk0, hk1⟩ := hlab (ll + k) (by omega) (by omega)
      have step : L42_BV_checkTable fu C (KBV.mk (g : Int) false) bt bo i lv (n2 + 1) (KCt.mk hc ts lt) ((ll + k : Nat) : Int) = (let m := (if lab (ll + k) < (((x :: R).length : Nat) : Int) then (((x :: R).length : Nat) : Int) - 1 - lab (ll + k) else -1); if m < 0 ∨ lv < 0 then (.ret (KCt.mk hc ts lt, KBV.mk (g : Int) true, bt, bo) : Out Empty (KCt × KBV × KBt × KBo)) else if bo.labelTypes m.toNat = bo.labelTypes lv.toNat then L42_BV_checkTable fu C (KBV.mk (g : Int) false) bt bo i lv n2 (KCt.mk hc ts (updZ lt (ll + k) (bo.openers m.toNat))) ((ll + (k + 1) : Nat) : Int) else .ret (KCt.mk hc ts lt, KBV.mk (g : Int) true, bt, bo)) := by
        rw [L42_BV_checkTable.eq_2]
        simp only [Int.toNat_natCast, hv, he, elast, hlb]
        rw [if_neg (show ¬ (ll : Int) + nn < ((ll + k : Nat) : Int) by omega), if_pos (show (0 : Int) ≤ ((ll + k : Nat) : Int) ∧ ((ll + k : Nat) : Int) < 2000 by omega), tl_lev (l := ll + k) (fun q a b => hlab q (by omega) (by omega)) hB, obind_ret]
        generalize hm : (if lab (ll + k) < (((x :: R).length : Nat) : Int) then (((x :: R).length : Nat) : Int) - 1 - lab (ll + k) else -1) = m
        have hm1 : m < 101 := by
          rw [← hm]
          by_cases c : lab (ll + k) < (((x :: R).length : Nat) : Int)
          · rw [if_pos c]; omega
          · rw [if_neg c]; omega
        have hl1 : lv < 101 := by
          rw [← hlv]
          by_cases c : lab (ll + nn) < (((x :: R).length : Nat) : Int)
          · rw [if_pos c]; omega
          · rw [if_neg c]; omega
        simp only [jp]
        by_cases c1 : m < 0
        · rw [if_pos c1, if_pos (Or.inl c1)]
        rw [if_neg c1]
        by_cases c2 : lv < 0
        · rw [if_pos c2, if_pos (Or.inr c2)]
        rw [if_neg c2, if_neg (show ¬ (m < 0 ∨ lv < 0) by omega), if_pos (show 0 ≤ m ∧ m < 101 by omega), if_pos (show 0 ≤ lv ∧ lv < 101 by omega)]
        by_cases c3 : bo.labelTypes m.toNat = bo.labelTypes lv.toNat
        · rw [if_pos c3, if_pos c3, if_pos (show 0 ≤ m ∧ m < 101 by omega), if_pos (show (0 : Int) ≤ ((ll + k : Nat) : Int) ∧ ((ll + k : Nat) : Int) < 2000 by omega), if_pos (show R32 (((ll + k : Nat) : Int) + 1) by omega)]
          rfl
        · rw [if_neg c3, if_neg c3]
      rw [step]
      dsimp only
      cases hl : labA (x :: R) (lab (ll + nn)) with
      | none =>
        have : lv = -1 := by rw [← hlv, if_neg (labA_none hz0 hl)]
        rw [if_pos (Or.inr (by omega))]
        exact ⟨lt, Or.inr (Or.inl ⟨fun last q => (by cases q), rfl, by omega⟩)⟩
      | some last =>
        obtain ⟨w, w1, w2, w3⟩ := labA_some hz0 hl
        obtain ⟨k1, k2, k3⟩ := ROc.get _ _ _ w1 hB.1
        have hlv' : lv.toNat = (x :: R).length - 1 - (lab (ll + nn)).toNat ∧ ¬ lv < 0 := by rw [← hlv, if_pos w3]; omega
        rw [hlv'.1, k2, w2]
        cases hlk : labA (x :: R) (lab (ll + k)) with
        | none =>
          rw [if_pos (Or.inl (by rw [if_neg (labA_none hk0 hlk)]; omega))]
          refine ⟨lt, Or.inr (Or.inl ⟨fun last' q => ?_, rfl, by omega⟩)⟩
          unfold tabOk
          rw [hlk]; rfl
        | some lk =>
          obtain ⟨u, u1, u2, u3⟩ := labA_some hk0 hlk
          obtain ⟨j1, j2, j3⟩ := ROc.get _ _ _ u1 hB.1
          rw [if_pos u3, if_neg (by rintro (q | q); omega; exact hlv'.2 q)]
          have em : ((((x :: R).length : Nat) : Int) - 1 - lab (ll + k)).toNat = (x :: R).length - 1 - (lab (ll + k)).toNat := by omega
          rw [em, j2, u2]
          have et : bo.openers ((x :: R).length - 1 - (lab (ll + k)).toNat) = tgt stk (lab (ll + k)).toNat := by
            rw [List.length_cons] at u3 ⊢
            rw [show R.length + 1 - 1 - (lab (ll + k)).toNat = stk.length - (lab (ll + k)).toNat by omega]
            exact hO.get stk _ (by omega)
          rw [et]
          have inj : rT lk = rT last ↔ lk = last := by
            rw [u2] at j3
            rw [w2] at k3
            rcases j3 with q | q | q <;> rcases k3 with p | p | p <;> rw [q, p] <;> decide
          by_cases cq : lk = last
          · rw [if_pos (inj.mpr cq)]
            obtain ⟨lt', h⟩ := ih (k + 1) n2 (updZ lt (ll + k) (tgt stk (lab (ll + k)).toNat)) (by omega) (by omega)
            refine ⟨lt', ?_⟩
            rcases h with ⟨last', q1, q2, q3, q4, q5⟩ | ⟨q1, q2, q3⟩ | ⟨q1, q2⟩
            · rw [hl] at q1; cases q1
              refine Or.inl ⟨last, rfl, ?_, ?_, fun q a b => ?_, fun l hl' => ?_⟩
              · unfold tabOk
                rw [hlk, cq, show ll + k + 1 = ll + (k + 1) by omega, q2]
                simp
              · rw [q3, show n2 + 1 - (j + 1) = n2 - j by omega]
              · by_cases e9 : q = k
                · subst e9
                  rw [q5 _ (by omega), updZ_s]
                · exact q4 q (by omega) b
              · rw [q5 l (by omega), updZ_n (by omega)]
            · refine Or.inr (Or.inl ⟨fun last' q => ?_, q2, by omega⟩)
              unfold tabOk
              rw [show ll + k + 1 = ll + (k + 1) by omega, q1 last' (by rw [hl]; exact q)]
              simp
            · rw [hl] at q1; cases q1
          · rw [if_neg (fun q => cq (inj.mp q))]
            refine ⟨lt, Or.inr (Or.inl ⟨fun last' q => ?_, rfl, by omega⟩)⟩
            cases q
            unfold tabOk
            rw [hlk, decide_eq_false (fun q => cq (by cases q; rfl))]
            rfl
  obtain ⟨lt', h⟩ := loop (nn + 1) 0 fu lt (by omega) (by omega)
  rw [show ((ll + 0 : Nat) : Int) = (ll : Int) from rfl, show ll + 0 = ll from rfl] at h
  rcases h with ⟨last, q1, q2, q3, q4, q5⟩ | ⟨q1, q2, q3⟩ | ⟨q1, q2⟩
  · rw [q1, q3]
    dsimp only [Option.bind]
    rw [if_pos q2]
    obtain ⟨w, w1, w2, w3⟩ := labA_some hz0 q1
    obtain ⟨k1, k2, k3⟩ := ROc.get _ _ _ w1 hB.1
    have hlv' : lv.toNat = (x :: R).length - 1 - (lab (ll + nn)).toNat ∧ 0 ≤ lv ∧ lv < 101 := by rw [← hlv, if_pos w3]; omega
    obtain ⟨n3, hn3⟩ : ∃ q, fu - (nn + 1) = q + 1 := ⟨fu - (nn + 1) - 1, by omega⟩
    rw [hn3, L42_BV_checkTable.eq_2]
    simp only [Int.toNat_natCast, hv, he, elast]
    rw [if_pos (show (ll : Int) + nn < ((ll + (nn + 1) : Nat) : Int) by omega)]
    rw [w2] at k3 k2
    rcases c_pop2 (g := (g : Int)) (show Ty0 127 by decide) hB hT hn (by omega) with ⟨y, bt', e1, e2, e3, e4, e5⟩ | ⟨bt', v', e1, e2, e3⟩
    · rw [e1, e2, obind_ret, if_pos hlv'.2, hlv'.1, k2]
      dsimp only
      have hB' := hB.vs (popA_snd e1)
      rcases c_popO (g := (g : Int)) k3 e4 hB'.1 hB'.2.1 hB'.2.2 e5 (by omega) with ⟨z, bt2, v2, f1, f2, f3, f4⟩ | ⟨bt2, v2, f1, f2, f3⟩
      · rw [f1, f2, obind_ret]
        dsimp only
        obtain ⟨bt3, bo3, g1, g2, g3, g4, g5⟩ := c_lose (hB'.vs (popO_snd f1)) f3 f4
        rw [g1, obind_ret]
        refine Or.inl ⟨_, _, _, _, rfl, rfl, g2, g3, by dsimp only; rw [g4]; exact hO, (by show tot (loseA _ :: R) ≤ N + 1; omega), fun j hj => ⟨rfl, rfl⟩, fun h => by omega, fun h => by omega, fun _ k hk => ?_, fun l hl => ?_⟩
        · rw [ev, Int.toNat_natCast] at hk
          rw [Int.toNat_natCast]
          exact q4 k (by omega) hk
        · rw [ev, Int.toNat_natCast, Int.toNat_natCast] at hl
          exact q5 l (fun q => hl ⟨rfl, q.1, q.2⟩)
      · rw [f1, f2, obind_ret]
        dsimp only
        obtain ⟨bt3, bo3, g1⟩ := d_lose (bt := bt2) hB
        rw [g1, obind_ret]
        exact Cx.no rfl ⟨_, _, _, rfl⟩
    · rw [e1, e2, obind_ret, if_pos hlv'.2]
      dsimp only
      obtain ⟨b2, v2, f1, f2⟩ := d_pop2 (g := (g : Int)) (w := bo.labelTypes lv.toNat) hB e3
      rw [f1, obind_ret]
      dsimp only
      obtain ⟨bt3, bo3, g1⟩ := d_lose (bt := b2) hB
      rw [g1, obind_ret]
      exact Cx.no rfl ⟨_, _, _, rfl⟩
  · rw [q2]
    refine Cx.no ?_ ⟨_, _, _, rfl⟩
    cases hl : labA (x :: R) (lab (ll + nn)) with
    | none => rfl
    | some last =>
      dsimp only [Option.bind]
      rw [if_neg (by rw [q1 last hl]; decide)]
  · omega
end CCT
