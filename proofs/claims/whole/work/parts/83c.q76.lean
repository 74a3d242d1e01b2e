/-! RUN: a whole run -/
/-- an argument as its parameter's type asks -/
abbrev parg (Mp : KMp) (M3 : KM3) (ar : KAr) (u q : Nat) : Int64 := if ptp Mp M3 u q = 127 then (ar.arguments q).toInt32.toInt64 else ar.arguments q
section RUNB
variable {fu u : Nat} {f : Nat → Int32} {n r : Int} {C : KCo} {M : KMe} {W1 : KW1} {W3 : KW3} {Wj : KWj} {W5 : KW5} {M1 : KM1} {Mp : KMp} {M3 : KM3} {Mj : KMj} {Ml : KMl} {M5 : KM5} {M6 : KM6} {ct : KCt} {X : SP} {af : KAf} {rr : KRr} {rl : KRl} {vs : Nat → Int64} {mb : KMb} {ag : KAg} {my : KMy} {rg : KRg} {ar : KAr}
set_option maxRecDepth 20000 in
theorem l22 {ma : KMa} (hM : MOk W1 W3 M1 Mp M3) (hu : (u : Int) < M3.functions) : ∀ (j k n1 : Nat) (st : Nat → Int64), ((k + j : Nat) : Int) = pcn M1 M3 u → j < n1 → ∃ st', L22_Ma_run fu W1 W3 ar u n1 ma (KAs.mk st k) k = .ret (ma, KAs.mk st' ((k + j : Nat) : Int), ((k + j : Nat) : Int)) ∧ (∀ q, q < k → st' q = st q) ∧ (∀ q, k ≤ q → q < k + j → st' q = parg Mp M3 ar u q) := by
  have hpc := hM.pc hu
  intro j
  induction j with
  | zero =>
    intro k n1 st hk hn
    obtain ⟨n1, rfl⟩ : ∃ q, n1 = q + 1 := ⟨n1 - 1, by omega⟩
    refine ⟨st, ?_, fun _ _ => rfl, fun q h1 h2 => absurd h1 (by omega)⟩
    rw [L22_Ma_run.eq_2, wa_pc hM hu, obind_ret, if_pos (by omega)]
    rfl
  | succ j ih =>
    intro k n1 st hk hn
    obtain ⟨n1, rfl⟩ : ∃ q, n1 = q + 1 := ⟨n1 - 1, by omega⟩
    have hv : L22_Ma_run fu W1 W3 ar u (n1 + 1) ma (KAs.mk st k) k = L22_Ma_run fu W1 W3 ar u n1 ma (KAs.mk (vp_updL st k (parg Mp M3 ar u k)) ((k + 1 : Nat) : Int)) ((k + 1 : Nat) : Int) := by
      rw [L22_Ma_run.eq_2, wa_pc hM hu, obind_ret, if_neg (by omega), wa_pt hM hu (by omega), obind_ret]
      simp only [jp]
      rw [if_pos (show (0 : Int) ≤ (k : Int) ∧ (k : Int) < 8 by omega), Int.toNat_natCast]
      by_cases c : ptp Mp M3 u k = 127
      · rw [if_pos c, cm_push, if_pos (by omega), obind_ret, if_pos (by omega), show parg Mp M3 ar u k = (ar.arguments k).toInt32.toInt64 from if_pos c]
        rfl
      · rw [if_neg c, if_pos (show (0 : Int) ≤ (k : Int) ∧ (k : Int) < 8 by omega), cm_push, if_pos (by omega), obind_ret, if_pos (by omega), show parg Mp M3 ar u k = ar.arguments k from if_neg c]
        rfl
    obtain ⟨st', e1, e2, e3⟩ := ih (k + 1) n1 (vp_updL st k (parg Mp M3 ar u k)) (by omega) (by omega)
    refine ⟨st', ?_, fun q h1 => ?_, fun q h1 h2 => ?_⟩
    · rw [hv, e1, show k + 1 + j = k + (j + 1) by omega]
    · rw [e2 q (by omega), updL_n (by omega)]
    · by_cases c : q = k
      · rw [e2 q (by omega), c, updL_s]
      · exact e3 q (by omega) (by omega)
set_option maxRecDepth 20000 in
theorem run_both {ma : KMa} {as : KAs} {mc : KMc} {rq : KRq} (hfu : 300100 < fu) (hX : CX f n C M W1 W3 Wj W5 M1 Mp M3 Mj Ml M5 M6 ct X) (hu : (u : Int) < M3.functions) (hm : MR M6 mb ag my rg) (hvs : ∀ p : Nat, (p : Int) < pcn M1 M3 u → vs p = parg Mp M3 ar u p) : ∃ (mb' : KMb) (ag' : KAg) (ma' : KMa) (as' : KAs) (af' : KAf), f_Ma_run fu C ct W1 W3 Wj W5 mb ag ma as af ar u = .ret (mb', ag', ma', as', af', ma'.reason) ∧ 0 ≤ ma'.steps ∧ ma'.steps ≤ 100001 ∧ ((∃ (mc' : KMc) (my' : KMy) (rg' : KRg) (rs' : KRs) (rr' : KRr) (rl' : KRl), f_Mo_run fu r mc my rg (KRs.mk vs (pcn M1 M3 u)) rr rl rq (KMt.mk f n) M1 M3 Mj M5 M u = .ret (r, mc', my', rg', rs', rr', rl', ma'.steps) ∧ ma'.reason = 0 ∧ MR M6 mb' ag' my' rg' ∧ (res M1 M3 u ≠ 0 → as'.stack 0 = rs'.values 0)) ∨ (∃ t : KRf × KMc × KMy × KRg × KRs × KRr × KRl × KRq, f_Mo_run fu r mc my rg (KRs.mk vs (pcn M1 M3 u)) rr rl rq (KMt.mk f n) M1 M3 Mj M5 M u = .thr t ∧ ma'.reason = t.1 ∧ t.1 ≠ 0 ∧ MR M6 mb' ag' t.2.2.1 t.2.2.2.1 ∧ t.2.2.2.2.2.2.2 = ma'.steps)) := by
  have hM := hX.1
  have hpc := hM.pc hu
  obtain ⟨pc, hpc2⟩ := Int.eq_ofNat_of_zero_le hpc.1
  obtain ⟨st, e1, _, e3⟩ := l22 (fu := fu) (ar := ar) (ma := KMa.mk 0 0 ma.next) hM hu pc 0 fu as.stack (by omega) (by omega)
  rw [Nat.zero_add, show ((0 : Nat) : Int) = 0 from rfl] at e1
  have hF : FI X M1 Mp M3 Mj Ml (KAf.mk af.functions af.bases af.returns 0 af.variables af.values) (KRr.mk rr.frameFunction rr.frameReturn rr.frameBase rr.frameLabels 0) (KRl.mk rl.labelAt rl.labelHeight 0) st [] (res M1 M3 u) 0 0 := ⟨rfl, rfl⟩
  unfold f_Ma_run f_Mo_run
  rw [hpc2]
  rw [e1, obind_ret]
  dsimp only
  rcases en_both (fu := fu) (r := r) (sp := 0) (u := u) (nx := ma.next) (c2 := 0) (c := mc.cursor) (g0 := u) (vs := vs) (h := pc) (lt := 0) (by omega) hX hu hF (by omega) (by omega) (fun c R' q => by cases q) (fun p hp1 hp2 => by
      rw [Nat.zero_add, e3 p (by omega) (by omega), show parg Mp M3 ar u p = (ar.arguments p).toInt32.toInt64 from if_pos hp2]
      exact r32_i _) rfl rfl (by decide) rfl (fun k hk => by rw [hvs k (by omega), e3 k (by omega) (by omega)]) rfl with ⟨ma', as', af', mc', rs', rr', rl', f1, f2, f3, g, i, b, R, h, hS, r1, r2, r3, r4, r5⟩ | ⟨t, f1, f2, f3⟩
  · rw [f1, f2, obind_ret, obind2_ret]
    dsimp only
    rw [KMa_eq f3 r1 r2, KAs_eq r3, r4, KRs_eq r5]
    obtain ⟨mb', ag', ma2, as2, af2, turn, q1, q2, q3, q4⟩ := lp_run (r := r) (g0 := u) (fu := fu) (by omega) hX 300000 fu fu 0 0 mb ag my rg g i b R (0 + 1) h af' rr' rl' as'.stack rs'.values (by omega) (by omega) (by omega) (by omega) (by omega) (by omega) (by omega) hm hS
    rw [q1, obind_ret]
    dsimp only
    refine ⟨mb', ag', ma2, as2, af2, rfl, q2, q3, ?_⟩
    rcases q4 with ⟨mc3, my3, rg3, rs3, rr3, rl3, p1, p2, p3, p4⟩ | ⟨t, p1, p2, p3, p4, p5⟩
    · refine Or.inl ⟨mc3, my3, rg3, rs3, rr3, rl3, ?_, p2, p3, p4⟩
      rw [p1, obind2_ret]
    · refine Or.inr ⟨t, ?_, p2, p3, p4, p5⟩
      rw [p1, obind2_thr]
  · rw [f1, f2, obind_ret, obind2_thr]
    dsimp only
    obtain ⟨n1, hn1⟩ : ∃ q, fu = q + 1 := ⟨fu - 1, by omega⟩
    rw [show L76_Ma_run fu C ct W1 W3 Wj W5 fu mb ag (KMa.mk 0 7 ma.next) (KAs.mk st pc) (KAf.mk af.functions af.bases af.returns 0 af.variables af.values) 0 = .ret (mb, ag, KMa.mk 0 7 ma.next, KAs.mk st pc, KAf.mk af.functions af.bases af.returns 0 af.variables af.values, 0) from by
      have k := l76_stop (fu := fu) (C := C) (ct := ct) (W1 := W1) (W3 := W3) (Wj := Wj) (W5 := W5) (mb := mb) (ag := ag) (n1 := n1) (ma := KMa.mk 0 7 ma.next) (as := KAs.mk st pc) (af := KAf.mk af.functions af.bases af.returns 0 af.variables af.values) (turn := 0) (by decide) (Or.inr (show (7 : Int) ≠ 0 by decide))
      rw [← hn1] at k
      exact k, obind_ret]
    dsimp only
    refine ⟨mb, ag, KMa.mk 0 7 ma.next, KAs.mk st pc, _, rfl, show (0 : Int) ≤ 0 by decide, show (0 : Int) ≤ 100001 by decide, Or.inr ⟨_, rfl, f3.symm, by rw [f3]; decide, hm, rfl⟩⟩
set_option maxRecDepth 20000 in
/-- what a run gives -/
theorem res_both {as : KAs} {rs : KRs} (hM : MOk W1 W3 M1 Mp M3) (hu : (u : Int) < M3.functions) (h : res M1 M3 u ≠ 0 → as.stack 0 = rs.values 0) : f_Ma_result W1 W3 as u = .ret (if res M1 M3 u = 0 then 0 else rs.values 0) := by
  unfold f_Ma_result
  rw [wa_rs hM hu, obind_ret]
  simp only [jp]
  have hrs := hM.rs hu
  by_cases c : res M1 M3 u = 0
  · rw [if_pos c, if_pos (by unfold rT; rw [if_pos c])]
  · rw [if_neg c, if_neg (by unfold rT; rw [if_neg c]; omega), if_pos (by decide)]
    show Out.ret (as.stack 0) = _
    rw [h c]
end RUNB
