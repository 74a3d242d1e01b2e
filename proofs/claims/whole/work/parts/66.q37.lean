/-! VALID: the class's blocks and branches -/
/-- what an instruction leaves in the class's tables -/
def CtS (Ct : KCt) (i : Nat) (o : Int) (v : Int64) (e : Int) (lab : Nat → Int) (stk : List Nat) (ct : KCt) (F : SS) : Prop :=
  (∀ j, j ≠ i → ct.heights j = Ct.heights j ∧ ct.targets j = Ct.targets j) ∧ (isOp o → ct.heights i = (tot F : Int)) ∧ (o = 12 ∨ o = 13 → ct.targets i = tgt stk v.toInt.toNat) ∧ (o = 14 → ∀ k : Nat, k ≤ v.toInt.toNat → ct.labelTargets (e.toNat + k) = tgt stk (lab (e.toNat + k)).toNat) ∧ (∀ l : Nat, ¬ (o = 14 ∧ e.toNat ≤ l ∧ l ≤ e.toNat + v.toInt.toNat) → ct.labelTargets l = Ct.labelTargets l)
def Cx (g : Int) (N : Nat) (stk : List Nat) (P : KCt → SS → Prop) (G : Out Empty (KCt × KBV × KBt × KBo)) (X : Option SS) : Prop := (∃ F ct bt bo, X = some F ∧ G = .ret (ct, KBV.mk g false, bt, bo) ∧ RT bt F ∧ BOk bo F ∧ OPv bo.openers stk ∧ tot F ≤ N ∧ P ct F) ∨ (∃ ct bt bo, X = none ∧ G = .ret (ct, KBV.mk g true, bt, bo))
set_option maxRecDepth 20000 in
theorem Cx.no {g : Int} {N : Nat} {stk : List Nat} {P : KCt → SS → Prop} {G : Out Empty (KCt × KBV × KBt × KBo)} {X : Option SS} (hX : X = none) (h : ∃ ct bt bo, G = .ret (ct, KBV.mk g true, bt, bo)) : Cx g N stk P G X := by
  obtain ⟨a, b, c, e⟩ := h
  exact Or.inr ⟨a, b, c, hX, e⟩
set_option maxRecDepth 20000 in
theorem CtS.rf {Ct : KCt} {i : Nat} {o : Int} {v : Int64} {e : Int} {lab : Nat → Int} {stk : List Nat} {F : SS} (h1 : ¬ isOp o) (h2 : o ≠ 12) (h3 : o ≠ 13) (h4 : o ≠ 14) : CtS Ct i o v e lab stk Ct F :=
  ⟨fun _ _ => ⟨rfl, rfl⟩, fun h => absurd h h1, fun h => by rcases h with h | h; exact absurd h h2; exact absurd h h3, fun h => absurd h h4, fun _ _ => rfl⟩
section CCT
variable {fu g i : Nat} {R : SS} {N : Nat} {bo : KBo} {bt : KBt} {x : Fr} {C : KCo} {Ct : KCt} {W1 : KW1} {W3 : KW3} {Wj : KWj} {W5 : KW5} {W6 : KW6} {M1 : KM1} {Mp : KMp} {M3 : KM3} {Mj : KMj} {Ml : KMl} {M5 : KM5} {M6 : KM6} {o : Int} {stk : List Nat} {lab : Nat → Int} {v : Int64} {e : Int}
set_option maxRecDepth 20000 in
/-- control instructions go to checkControl -/
theorem ck_ctl (ho : o = 256 ∨ o ≤ 16) : f_BV_check fu C Ct W1 W3 Wj W5 W6 (KBV.mk (g : Int) false) bt bo o i = f_BV_checkControl fu C Ct W1 W3 (KBV.mk (g : Int) false) bt bo o i := by
  unfold f_BV_check
  simp only [jp]
  have id4 : ∀ G : Out Empty (KCt × KBV × KBt × KBo), obind G (fun x => .ret (x.1, x.2.1, x.2.2.1, x.2.2.2)) = G := fun G => Out.cs (P := fun G => obind G (fun x => .ret (x.1, x.2.1, x.2.2.1, x.2.2.2)) = G) G (fun _ => rfl) (fun t => t.elim) rfl
  rcases ho with h | h
  · rw [if_pos h]; exact id4 _
  · rw [if_neg (show ¬ o = 256 by omega), if_neg (show ¬ 16 < o by omega)]; exact id4 _
set_option maxRecDepth 20000 in
theorem id4 (G : Out Empty (KCt × KBV × KBt × KBo)) : obind G (fun x => .ret (x.1, x.2.1, x.2.2.1, x.2.2.2)) = G := Out.cs (P := fun G => obind G (fun x => .ret (x.1, x.2.1, x.2.2.1, x.2.2.2)) = G) G (fun _ => rfl) (fun t => t.elim) rfl
set_option maxRecDepth 20000 in
theorem c_c0 (hB : BOk bo (x :: R)) (hT : RT bt (x :: R)) (hO : OPv bo.openers stk) (hn : tot (x :: R) ≤ N) : Cx g (N + 1) stk (CtS Ct i 0 v e lab stk) (f_BV_checkControl fu C Ct W1 W3 (KBV.mk (g : Int) false) bt bo 0 i) (some (loseA x :: R)) := by
  unfold f_BV_checkControl
  simp only [jp, reduceIte]
  obtain ⟨bt', bo', e1, h1, h2, h3, h4⟩ := c_lose hB hT hn
  rw [e1, obind_ret]
  exact Or.inl ⟨_, _, _, _, rfl, rfl, h1, h2, by rw [h3]; exact hO, by omega, CtS.rf (by omega) (by decide) (by decide) (by decide)⟩
set_option maxRecDepth 20000 in
theorem c_c1 (hB : BOk bo (x :: R)) (hT : RT bt (x :: R)) (hO : OPv bo.openers stk) (hn : tot (x :: R) ≤ N) : Cx g (N + 1) stk (CtS Ct i 1 v e lab stk) (f_BV_checkControl fu C Ct W1 W3 (KBV.mk (g : Int) false) bt bo 1 i) (some (x :: R)) := by
  unfold f_BV_checkControl
  simp only [jp, Int.reduceEq, reduceIte]
  exact Or.inl ⟨_, _, _, _, rfl, rfl, hT, hB, hO, by omega, CtS.rf (by omega) (by decide) (by decide) (by decide)⟩
set_option maxRecDepth 20000 in
theorem OPv.push {op : Nat → Int} (hO : OPv op stk) (n : Nat) (hn : n = stk.length + 1) : OPv (updZ op n i) (i :: stk) := by
  subst hn
  exact ⟨updZ_s _ _ _, OPv.cg stk (fun k hk => updZ_n (by omega)) hO⟩
set_option maxRecDepth 20000 in
theorem CtS.hgt {hs ts lt : Nat → Int} {F : SS} {h : Int} (ho : isOp o) (hF : h = (tot F : Int)) : CtS (KCt.mk hs ts lt) i o v e lab stk (KCt.mk (updZ hs i h) ts lt) F :=
  ⟨fun j hj => ⟨updZ_n hj, rfl⟩, fun _ => by rw [← hF]; exact updZ_s _ _ _, fun h => by omega, fun h => by omega, fun _ _ => rfl⟩
set_option maxRecDepth 20000 in
theorem c_c2 (ho : o = 2 ∨ o = 3) (hi : i < 2000) (hx : C.extras i = e) (he : e = 64 ∨ e = 127 ∨ e = 126) (hB : BOk bo (x :: R)) (hs : stk.length = R.length) (hl : R.length < 100) (hT : RT bt (x :: R)) (hO : OPv bo.openers stk) (hn : tot (x :: R) ≤ N) : Cx g (N + 1) (i :: stk) (CtS Ct i o v e lab stk) (f_BV_checkControl fu C Ct W1 W3 (KBV.mk (g : Int) false) bt bo o i) (some (([], false, (if o = 3 then 0 else uT e), uT e) :: x :: R)) := by
  obtain ⟨h8, h9⟩ := rT_uT he
  obtain ⟨hc, ts, lt⟩ := Ct
  have hii : (0 : Int) ≤ i ∧ (i : Int) < 2000 := by omega
  have eL : rT (if o = 3 then 0 else uT e) = if o = 3 then 64 else e := by
    by_cases c : o = 3
    · rw [if_pos c, if_pos c]; rfl
    · rw [if_neg c, if_neg c]; exact h8
  have tL : Ty0 (if o = 3 then 0 else uT e) := by
    by_cases c : o = 3
    · rw [if_pos c]; exact Or.inl rfl
    · rw [if_neg c]; exact h9
  obtain ⟨bo', e1, b1, b2⟩ := c_open (g := (g : Int)) (hs := hc) (ts := ts) (lt := lt) hi tL h9 hB.1 hB.2.1 (by rw [List.length_cons]; omega) hT
  rw [h8, eL] at e1
  have : f_BV_checkControl fu C (hc, ts, lt) W1 W3 (KBV.mk (g : Int) false) bt bo o i = obind (f_BV_openBlock (KCt.mk hc ts lt) (KBV.mk (g : Int) false) bt bo i e (if o = 3 then 64 else e)) (fun y => .ret (y.1, y.2.1, bt, y.2.2)) := by
    unfold f_BV_checkControl
    rcases ho with q | q
    · subst q
      simp only [jp, Int.reduceEq, reduceIte, if_pos hii, Int.toNat_natCast, hx]
    · subst q
      simp only [jp, Int.reduceEq, reduceIte, if_pos hii, Int.toNat_natCast, hx]
  rw [this, e1, obind_ret]
  refine Or.inl ⟨_, _, _, _, rfl, rfl, hT.nil, b1, ?_, by rw [tot_nil]; omega, CtS.hgt (by omega) (by rw [tot_nil])⟩
  dsimp only
  rw [b2]
  exact hO.push _ (by rw [List.length_cons]; omega)
set_option maxRecDepth 20000 in
theorem c_c4 (hi : i < 2000) (hx : C.extras i = e) (he : e = 64 ∨ e = 127 ∨ e = 126) (hB : BOk bo (x :: R)) (hs : stk.length = R.length) (hl : R.length < 100) (hT : RT bt (x :: R)) (hO : OPv bo.openers stk) (hn : tot (x :: R) ≤ N) (hN : N < 2000) : Cx g (N + 1) (i :: stk) (CtS Ct i 4 v e lab stk) (f_BV_checkControl fu C Ct W1 W3 (KBV.mk (g : Int) false) bt bo 4 i) ((popA 127 x).map (fun y => ([], false, uT e, uT e) :: y.2 :: R)) := by
  obtain ⟨h8, h9⟩ := rT_uT he
  obtain ⟨hc, ts, lt⟩ := Ct
  have hii : (0 : Int) ≤ i ∧ (i : Int) < 2000 := by omega
  unfold f_BV_checkControl
  simp only [jp, Int.reduceEq, reduceIte, if_pos hii, Int.toNat_natCast, hx]
  rcases c_pop2 (g := (g : Int)) (show Ty0 127 by decide) hB hT hn (by omega) with ⟨y, bt', e1, e2, e3, e4, e5⟩ | ⟨bt', v', e1, e2, e3⟩
  · rw [e1, e2, obind_ret]
    dsimp only
    have hB' := hB.vs (popA_snd e1)
    obtain ⟨bo', f1, b1, b2⟩ := c_open (g := (g : Int)) (hs := hc) (ts := ts) (lt := lt) hi h9 h9 hB'.1 hB'.2.1 (by rw [List.length_cons]; omega) e4
    rw [h8] at f1
    rw [f1, obind_ret]
    refine Or.inl ⟨_, _, _, _, rfl, rfl, e4.nil, b1, ?_, by rw [tot_nil]; omega, CtS.hgt (by omega) (by rw [tot_nil])⟩
    dsimp only
    rw [b2]
    exact hO.push _ (by rw [List.length_cons]; omega)
  · rw [e1, e2, obind_ret]
    obtain ⟨ct, bo', f1⟩ := d_open (g := (g : Int)) (Ct := (hc, ts, lt)) (bt := bt') (bo := bo) (t := e) (u := e) hi (by rw [hB.2.1]; omega) (by rw [hB.2.1]; have := hB.2.2; omega)
    dsimp only
    rw [f1, obind_ret]
    exact Cx.no rfl ⟨_, _, _, rfl⟩
set_option maxRecDepth 20000 in
/-- a block without values of its own -/
theorem nil_iff {y : Fr} (hT : RT bt (y :: R)) : bt.height = (tot R : Int) ↔ y.1 = [] := by
  rw [hT.1, tot_cons]
  constructor
  · intro h; exact List.eq_nil_of_length_eq_zero (by omega)
  · intro h; rw [h]; show ((0 + tot R : Nat) : Int) = _; omega
set_option maxRecDepth 20000 in
theorem c_c5 (hB : BOk bo (x :: R)) (hT : RT bt (x :: R)) (hO : OPv bo.openers stk) (hn : tot (x :: R) ≤ N) (hN : N < 2000) : Cx g (N + 1) stk (CtS Ct i 5 v e lab stk) (f_BV_checkControl fu C Ct W1 W3 (KBV.mk (g : Int) false) bt bo 5 i) ((popO x.2.2.2 x).bind (fun y => if y.1 = [] then some (([], false, x.2.2) :: R) else none)) := by
  obtain ⟨⟨h1, h2, h3, h4, h5, h6, h7⟩, h8, h9⟩ := hB
  have hB' : BOk bo (x :: R) := ⟨⟨h1, h2, h3, h4, h5, h6, h7⟩, h8, h9⟩
  rw [List.length_cons] at h8 h9
  have e1 : (bo.openCount - 1).toNat = R.length := by omega
  have hR : 0 ≤ bo.openCount - 1 ∧ bo.openCount - 1 < 101 := by omega
  unfold f_BV_checkControl f_BV_checkElse
  simp only [jp, Int.reduceEq, reduceIte, if_pos hR, if_pos (show R32 (bo.openCount - 1) by omega), e1, h1, h4]
  rcases c_popO (g := (g : Int)) h6 hT hB'.1 hB'.2.1 hB'.2.2 hn (by omega) with ⟨y, bt', v', f1, f2, f3, f4⟩ | ⟨bt', v', f1, f2, f3⟩
  · rw [f1, f2, obind_ret]
    dsimp only [Option.bind]
    by_cases c : y.1 = []
    · rw [if_pos ((nil_iff f3).mpr c), if_pos c, obind_ret]
      have rt : RT bt' (([], false, x.2.2) :: R) := by
        obtain ⟨a, b⟩ := f3
        have hfl : flat (y :: R) = flat (([], false, x.2.2) :: R) := by show y.1 ++ flat R = [] ++ flat R; rw [c]
        exact ⟨by rw [a]; unfold tot; rw [hfl], by rw [← hfl]; exact b⟩
      refine Or.inl ⟨_, _, _, _, rfl, rfl, rt, ⟨⟨h1, updB_s _ _ _, h3, h4, h5, h6, ROc.cg (bo := bo) R (fun k hk => ⟨rfl, updB_n (show k ≠ R.length by omega), rfl, rfl⟩) h7⟩, by rw [List.length_cons]; exact h8, by rw [List.length_cons]; exact h9⟩, hO, by rw [tot_nil]; rw [tot_cons] at hn; omega, CtS.rf (by omega) (by decide) (by decide) (by decide)⟩
    · rw [if_neg (fun q => c ((nil_iff f3).mp q)), if_neg c, obind_ret]
      exact Cx.no rfl ⟨_, _, _, rfl⟩
  · rw [f1, f2, obind_ret]
    dsimp only
    have fin : ∀ (q : Prop) [Decidable q] (A B : Out Empty (KBV × KBt × KBo)), (∃ bt bo, A = .ret (KBV.mk (g : Int) true, bt, bo)) → (∃ bt bo, B = .ret (KBV.mk (g : Int) true, bt, bo)) → ∃ bt bo, (if q then A else B) = .ret (KBV.mk (g : Int) true, bt, bo) := by
      intro q _ A B hA hB
      by_cases c : q
      · rw [if_pos c]; exact hA
      · rw [if_neg c]; exact hB
    obtain ⟨b1, b2, e9⟩ := fin (bt'.height = (tot R : Int)) (.ret (KBV.mk (g : Int) true, bt', KBo.mk bo.openers bo.bases bo.blockTypes bo.labelTypes (updB bo.unreachable R.length false) bo.openCount)) (.ret (KBV.mk (KBV.mk (g : Int) true).function true, bt', KBo.mk bo.openers bo.bases bo.blockTypes bo.labelTypes (updB bo.unreachable R.length false) bo.openCount)) ⟨_, _, rfl⟩ ⟨_, _, rfl⟩
    rw [e9, obind_ret]
    exact Cx.no rfl ⟨_, _, _, rfl⟩
set_option maxRecDepth 20000 in
/-- the class's closing of a block, before what lies outside takes what it gives -/
theorem c_close {k4 : Prop} [Decidable k4] (hop : bo.openers R.length < 0 ∨ (0 ≤ bo.openers R.length ∧ bo.openers R.length < 2000)) (hk : k4 ↔ (0 ≤ bo.openers R.length ∧ C.ops (bo.openers R.length).toNat = 4 ∧ C.elses (bo.openers R.length).toNat < 0)) (hB : BOk bo (x :: R)) (hT : RT bt (x :: R)) (hn : tot (x :: R) ≤ N) (hN : N < 2000) :
    (∃ y bt', popO x.2.2.2 x = some y ∧ y.1 = [] ∧ (k4 → x.2.2.2 = 0) ∧ RT bt' (y :: R) ∧ tot (y :: R) ≤ N ∧ f_BV_closeBlock C (KBV.mk (g : Int) false) bt bo = obind (f_BV_push (KBV.mk (g : Int) false) bt' (rT x.2.2.2)) (fun z => .ret (z.1, z.2, KBo.mk bo.openers bo.bases bo.blockTypes bo.labelTypes bo.unreachable (bo.openCount - 1)))) ∨
    (¬ (∃ y, popO x.2.2.2 x = some y ∧ y.1 = [] ∧ (k4 → x.2.2.2 = 0)) ∧ ∃ bt' bo', f_BV_closeBlock C (KBV.mk (g : Int) false) bt bo = .ret (KBV.mk (g : Int) true, bt', bo')) := by
  obtain ⟨⟨h1, h2, h3, h4, h5, h6, h7⟩, h8, h9⟩ := hB
  have hB' : BOk bo (x :: R) := ⟨⟨h1, h2, h3, h4, h5, h6, h7⟩, h8, h9⟩
  rw [List.length_cons] at h8 h9
  have e1 : (bo.openCount - 1).toNat = R.length := by omega
  have hR : 0 ≤ bo.openCount - 1 ∧ bo.openCount - 1 < 101 := by omega
  -- the test of an if without else
  have tst : ∀ (y7 : KBV) (b' : KBt), (y7 = KBV.mk (g : Int) false ∨ y7 = KBV.mk (g : Int) true) → (if bo.openers R.length < 0 then obind (f_BV_push y7 b' (rT x.2.2.2)) (fun z => .ret (z.1, z.2, KBo.mk bo.openers bo.bases bo.blockTypes bo.labelTypes bo.unreachable (bo.openCount - 1))) else if 0 ≤ bo.openers R.length ∧ bo.openers R.length < 2000 then if C.ops (bo.openers R.length).toNat = 4 then if 0 ≤ bo.openers R.length ∧ bo.openers R.length < 2000 then if 0 ≤ C.elses (bo.openers R.length).toNat then obind (f_BV_push y7 b' (rT x.2.2.2)) (fun z => .ret (z.1, z.2, KBo.mk bo.openers bo.bases bo.blockTypes bo.labelTypes bo.unreachable (bo.openCount - 1))) else if rT x.2.2.2 = 64 then obind (f_BV_push y7 b' (rT x.2.2.2)) (fun z => .ret (z.1, z.2, KBo.mk bo.openers bo.bases bo.blockTypes bo.labelTypes bo.unreachable (bo.openCount - 1))) else obind (f_BV_push (KBV.mk y7.function true) b' (rT x.2.2.2)) (fun z => .ret (z.1, z.2, KBo.mk bo.openers bo.bases bo.blockTypes bo.labelTypes bo.unreachable (bo.openCount - 1))) else .bad else obind (f_BV_push y7 b' (rT x.2.2.2)) (fun z => .ret (z.1, z.2, KBo.mk bo.openers bo.bases bo.blockTypes bo.labelTypes bo.unreachable (bo.openCount - 1))) else (.bad : Out Empty (KBV × KBt × KBo))) = obind (f_BV_push (if k4 → x.2.2.2 = 0 then y7 else KBV.mk (g : Int) true) b' (rT x.2.2.2)) (fun z => .ret (z.1, z.2, KBo.mk bo.openers bo.bases bo.blockTypes bo.labelTypes bo.unreachable (bo.openCount - 1))) := by
    intro y7 b' hy
    have hr : rT x.2.2.2 = 64 ↔ x.2.2.2 = 0 := by rcases h6 with q | q | q <;> rw [q] <;> decide
    have hfn : KBV.mk y7.function true = KBV.mk (g : Int) true := by rcases hy with q | q <;> rw [q]
    rcases hop with c | c
    · rw [if_pos c, if_pos (show k4 → x.2.2.2 = 0 from fun q => absurd (hk.mp q).1 (by omega))]
    · rw [if_neg (show ¬ bo.openers R.length < 0 by omega), if_pos c, if_pos c]
      by_cases c4 : C.ops (bo.openers R.length).toNat = 4
      · rw [if_pos c4]
        by_cases ce : 0 ≤ C.elses (bo.openers R.length).toNat
        · rw [if_pos ce, if_pos (show k4 → x.2.2.2 = 0 from fun q => absurd (hk.mp q).2.2 (by omega))]
        · rw [if_neg ce]
          by_cases c6 : x.2.2.2 = 0
          · rw [if_pos (hr.mpr c6), if_pos (show k4 → x.2.2.2 = 0 from fun _ => c6)]
          · rw [if_neg (fun q => c6 (hr.mp q)), if_neg (fun q => c6 (q (hk.mpr ⟨c.1, c4, by omega⟩))), hfn]
      · rw [if_neg c4, if_pos (show k4 → x.2.2.2 = 0 from fun q => absurd (hk.mp q).2.1 c4)]
  have deadp : ∀ b', Hb b' → ∃ bt' bo', obind (f_BV_push (KBV.mk (g : Int) true) b' (rT x.2.2.2)) (fun z => (.ret (z.1, z.2, KBo.mk bo.openers bo.bases bo.blockTypes bo.labelTypes bo.unreachable (bo.openCount - 1)) : Out Empty (KBV × KBt × KBo))) = .ret (KBV.mk (g : Int) true, bt', bo') := by
    intro b' hb
    obtain ⟨bt2, e, _⟩ := d_push (g := (g : Int)) (t := rT x.2.2.2) hb
    rw [e, obind_ret]; exact ⟨_, _, rfl⟩
  unfold f_BV_closeBlock
  simp only [jp, if_pos hR, if_pos (show R32 (bo.openCount - 1) by omega), e1, h1, h4]
  rcases c_popO (g := (g : Int)) h6 hT hB'.1 hB'.2.1 hB'.2.2 hn (by omega) with ⟨y, bt', v', f1, f2, f3, f4⟩ | ⟨bt', v', f1, f2, f3⟩
  · rw [f1, f2, obind_ret]
    dsimp only
    by_cases c : y.1 = []
    · rw [if_pos ((nil_iff f3).mpr c), tst _ _ (Or.inl rfl)]
      by_cases ck : k4 → x.2.2.2 = 0
      · rw [if_pos ck]
        exact Or.inl ⟨y, bt', rfl, c, ck, f3, f4, rfl⟩
      · rw [if_neg ck]
        right
        refine ⟨fun ⟨y', q1, q2, q3⟩ => ck q3, deadp bt' (f3.Hb (by omega))⟩
    · rw [if_neg (fun q => c ((nil_iff f3).mp q)), tst _ _ (Or.inr rfl)]
      right
      refine ⟨fun ⟨y', q1, q2, q3⟩ => c (by cases q1; exact q2), ?_⟩
      rw [show (if k4 → x.2.2.2 = 0 then KBV.mk (KBV.mk (g : Int) false).function true else KBV.mk (g : Int) true) = KBV.mk (g : Int) true from ite_self _]
      exact deadp bt' (f3.Hb (by omega))
  · rw [f1, f2, obind_ret]
    dsimp only
    right
    refine ⟨fun ⟨y', q1, _⟩ => (by cases q1), ?_⟩
    have e9 : (if k4 → x.2.2.2 = 0 then KBV.mk (g : Int) true else KBV.mk (g : Int) true) = KBV.mk (g : Int) true := ite_self _
    by_cases c : bt'.height = (tot R : Int)
    · rw [if_pos c, tst _ _ (Or.inr rfl), e9]; exact deadp bt' f3
    · rw [if_neg c, tst _ _ (Or.inr rfl), e9]; exact deadp bt' f3
end CCT
