/-! VALID: a whole function -/
/-- the labels of the table at k -/
abbrev rng (C : KCo) (k l : Nat) : Prop := (C.extras k).toNat ≤ l ∧ l ≤ (C.extras k).toNat + (C.values k).toInt.toNat
/-- what the class's tables hold of the instructions i .. e - 1 -/
def CtF (C : KCo) (stk : Nat → List Nat) (Fs : Nat → SS) (i e : Nat) (ct : KCt) : Prop := ∀ k, i ≤ k → k < e → (isOp (C.ops k) → ct.heights k = (tot (Fs (k + 1)) : Int)) ∧ (C.ops k = 12 ∨ C.ops k = 13 → ct.targets k = tgt (stk k) (C.values k).toInt.toNat) ∧ (C.ops k = 14 → ∀ l, rng C k l → ct.labelTargets l = tgt (stk k) (C.labels l).toNat)
def CtFr (C : KCo) (i e : Nat) (Ct ct : KCt) : Prop := (∀ j, ¬ (i ≤ j ∧ j < e) → ct.heights j = Ct.heights j ∧ ct.targets j = Ct.targets j) ∧ ∀ l, (∀ k, i ≤ k → k < e → C.ops k = 14 → ¬ rng C k l) → ct.labelTargets l = Ct.labelTargets l
section FUN
variable {fu g s e : Nat} {f : Nat → Int32} {r n L : Int} {C : KCo} {W1 : KW1} {W3 : KW3} {Wj : KWj} {W5 : KW5} {W6 : KW6} {M1 : KM1} {Mp : KMp} {M3 : KM3} {Mj : KMj} {Ml : KMl} {M5 : KM5} {M6 : KM6} {pos : Nat → Int} {stk : Nat → List Nat}
set_option maxRecDepth 20000 in
theorem ac_step {i n2 : Nat} {Ct : KCt} {bt : KBt} {bo : KBo} (hi : i < 2000) (hs : (i : Int) < C.size) (ho : 0 < bo.openCount) : L60_BV_accepts fu C W1 W3 Wj W5 W6 (n2 + 1) Ct (KBV.mk (g : Int) false) bt bo i = obind (f_BV_check fu C Ct W1 W3 Wj W5 W6 (KBV.mk (g : Int) false) bt bo (C.ops i) i) (fun x => L60_BV_accepts fu C W1 W3 Wj W5 W6 n2 x.1 x.2.1 x.2.2.1 x.2.2.2 ((i + 1 : Nat) : Int)) := by
  rw [L60_BV_accepts.eq_2, if_neg (by omega), if_neg (by omega), if_neg (show ¬ (KBV.mk (g : Int) false).failed = true from Bool.false_ne_true), if_pos (by omega), Int.toNat_natCast]
  simp only [if_pos (show R32 ((i : Int) + 1) by omega)]
  rfl
set_option maxRecDepth 20000 in
theorem ac_fail {i : Int} {n2 : Nat} {Ct : KCt} {bt : KBt} {bo : KBo} : L60_BV_accepts fu C W1 W3 Wj W5 W6 (n2 + 1) Ct (KBV.mk (g : Int) true) bt bo i = .ret (Ct, KBV.mk (g : Int) true, bt, bo, i) := by
  rw [L60_BV_accepts.eq_2]
  by_cases c : C.size ≤ i
  · rw [if_pos c]
  · rw [if_neg c]
    by_cases c2 : bo.openCount ≤ 0
    · rw [if_pos c2]
    · rw [if_neg c2, if_pos rfl]
set_option maxRecDepth 20000 in
theorem ac_stop {i : Int} {n2 : Nat} {Ct : KCt} {bv : KBV} {bt : KBt} {bo : KBo} (ho : bo.openCount ≤ 0) : L60_BV_accepts fu C W1 W3 Wj W5 W6 (n2 + 1) Ct bv bt bo i = .ret (Ct, bv, bt, bo, i) := by
  rw [L60_BV_accepts.eq_2]
  by_cases c : C.size ≤ i
  · rw [if_pos c]
  · rw [if_neg c, if_pos ho]
set_option maxRecDepth 20000 in
theorem lp_valid (hfu : 60 < fu) (hM : MOk W1 W3 M1 Mp M3) (hg : (g : Int) < M3.functions) (hLo : LOk Wj Mj Ml g) (h5 : R5 W5 M5) (h6 : R6 W6 M6)
    (hPD : PD f C.ops C.extras C.labels C.values C.labelCount s e pos) (hSK : SK C.ops C.ends C.elses s e stk) (hste : stk e = []) (hlc : C.labelCount ≤ 2000) (he : e < 2000) (hsz : (e : Int) < C.size) (hop : C.ops e = 256) (hb : by8 (f (pos e).toNat) = 11) (hp0 : 0 ≤ pos e) (hLe : L = pos e + 1) (hL : L ≤ 2000) {l0 l1 : Int} (hTB : TB C.ops C.extras C.values l0 l1 s e) (hl0 : 0 ≤ l0) :
    ∀ (j i : Nat) (F : SS) (Ct : KCt) (bt : KBt) (bo : KBo) (z : KVt) (vo : KVo) (n1 n2 : Nat), i + j = e → s ≤ i → j + 1 < n1 → j + 1 < n2 → VI M1 M3 g s C stk i F bt bo z vo →
    (∃ (Fs : Nat → SS) (ct : KCt) (bt' : KBt) (bo' : KBo) (at' : Int) (z' : KVt) (vo' : KVo) (c' : KMc), Fs i = F ∧ (∀ k, i ≤ k → k < e → stAt M1 Mp M3 Mj Ml M5 M6 g C stk k (Fs k) = some (Fs (k + 1))) ∧ (∃ x y, Fs e = [x] ∧ x.2.2.2 = res M1 M3 g ∧ popO (res M1 M3 g) x = some y ∧ y.1 = []) ∧ L60_BV_accepts fu C W1 W3 Wj W5 W6 n2 Ct (KBV.mk (g : Int) false) bt bo i = .ret (ct, KBV.mk (g : Int) false, bt', bo', at') ∧ L62_Mo_validCode fu (KMt.mk f n) M1 Mp M3 Mj Ml M5 M6 (g : Int) n1 r (KMc.mk (pos i) L) z vo = .ret (r, c', z', vo') ∧ CtF C stk Fs i e ct ∧ CtFr C i e Ct ct) ∨
    (∃ (ct : KCt) (bt' : KBt) (bo' : KBo) (at' : Int) (t : KRf × KMc × KVt × KVo × KVf), L60_BV_accepts fu C W1 W3 Wj W5 W6 n2 Ct (KBV.mk (g : Int) false) bt bo i = .ret (ct, KBV.mk (g : Int) true, bt', bo', at') ∧ L62_Mo_validCode fu (KMt.mk f n) M1 Mp M3 Mj Ml M5 M6 (g : Int) n1 r (KMc.mk (pos i) L) z vo = .thr t ∧ t.1 = 2) := by
  intro j
  induction j with
  | zero =>
    intro i F Ct bt bo z vo n1 n2 hij hs hn1 hn2 hI
    have : i = e := by omega
    subst this
    obtain ⟨n1, rfl⟩ : ∃ q, n1 = q + 1 + 1 := ⟨n1 - 2, by omega⟩
    obtain ⟨n2, rfl⟩ : ∃ q, n2 = q + 1 + 1 := ⟨n2 - 2, by omega⟩
    obtain ⟨hT, hB, hO, hS, hV, hK, hlen, hsig, htot⟩ := hI
    rw [hste] at hO hK hlen
    cases F with
    | nil => rw [List.length_nil] at hlen; cases hlen
    | cons x R =>
      have hR : R = [] := by
        rw [List.length_cons, List.length_nil] at hlen
        exact List.eq_nil_of_length_eq_zero (by omega)
      subst hR
      have hx : x.2.2 = (res M1 M3 g, res M1 M3 g) := by
        have h9 : ([x.2.2] : List (Int × Int)).getLast? = some (res M1 M3 g, res M1 M3 g) := hsig
        exact Option.some.inj h9
      have hxo : x.2.2.2 = res M1 M3 g := by rw [hx]
      have hopn : bo.openers ([] : SS).length = -1 := hO
      have hkd : vo.kinds ([] : SS).length = 0 := hK
      have hoc : bo.openCount = 1 := hB.2.1
      have hdp : vo.depth = 1 := hV.2.1
      have htn : tot [x] ≤ i - s := by omega
      have hN : i - s < 2000 := by omega
      have hE := vc_end (fu := fu) (f := f) (r := r) (n := n) (M1 := M1) (Mp := Mp) (M3 := M3) (Mj := Mj) (Ml := Ml) (M5 := M5) (M6 := M6) (g := g) hp0 (show pos i < L by omega) hL hb hV hS htn hN
      have hC := c_close (g := g) (C := C) (k4 := False) (Or.inl (by rw [hopn]; decide)) (by rw [hopn]; exact ⟨fun q => q.elim, fun q => absurd q.1 (by decide)⟩) hB hT htn hN
      rw [ac_step (by omega) hsz (by omega), hop, ck_ctl (Or.inl rfl)]
      have ec : f_BV_checkControl fu C Ct W1 W3 (KBV.mk (g : Int) false) bt bo 256 i = obind (f_BV_closeBlock C (KBV.mk (g : Int) false) bt bo) (fun x_5 => .ret (Ct, x_5.1, x_5.2.1, x_5.2.2)) := by
        unfold f_BV_checkControl
        simp only [jp, Int.reduceEq, reduceIte]
      rw [ec]
      rcases hC with ⟨y, bt', f1, f2, f3, f4, f5, f6⟩ | ⟨f1, bt', bo', f2⟩
      · rcases hE with ⟨y', z', k1, k2, k3, k4, k5⟩ | ⟨k1, _⟩
        · obtain ⟨bt2, g1, _, _⟩ := c_push (g := (g : Int)) hB.1.2.2.2.2.2.1 f4 f5 hN
          rw [f6, g1, obind_ret, obind_ret, obind_ret]
          dsimp only
          rw [ac_stop (by show bo.openCount - 1 ≤ 0; omega), k4, vc_stop (by show vo.depth - 1 ≤ 0; omega)]
          refine Or.inl ⟨fun _ => [x], _, _, _, _, _, _, _, rfl, fun k h1 h2 => by omega, ⟨x, y, rfl, hxo, by rw [← hxo]; exact f1, f2⟩, rfl, rfl, fun k h1 h2 => by omega, fun j _ => ⟨rfl, rfl⟩, fun l _ => rfl⟩
        · exact absurd ⟨y, f1, f2, fun q => absurd q (by rw [hkd]; decide)⟩ k1
      · rcases hE with ⟨y', z', k1, k2, k3, k4, k5⟩ | ⟨k1, k2⟩
        · exact absurd ⟨y', k1, k2, fun q => q.elim⟩ f1
        · rw [f2, obind_ret, obind_ret]
          dsimp only
          rw [ac_fail]
          obtain ⟨t, t1, t2⟩ := k2 (n1 + 1)
          exact Or.inr ⟨_, _, _, _, t, rfl, t1, t2⟩
  | succ j ih =>
    intro i F Ct bt bo z vo n1 n2 hij hs hn1 hn2 hI
    obtain ⟨n1, rfl⟩ : ∃ q, n1 = q + 1 := ⟨n1 - 1, by omega⟩
    obtain ⟨n2, rfl⟩ : ∃ q, n2 = q + 1 := ⟨n2 - 1, by omega⟩
    have hoc : 0 < bo.openCount := by
      have h1 := hI.2.1.2.1
      have h2 := hI.2.2.2.2.2.2.1
      omega
    rw [ac_step (by omega) (by omega) hoc]
    rcases v_one (fu := fu) (r := r) (n := n) (Ct := Ct) hfu hM hg hLo h5 h6 hPD hSK hste hlc hs (show i < e by omega) he (show pos e < L by omega) hL hI with ⟨F', ct1, bt1, bo1, z1, vo1, a1, a2, a3, a4, a5⟩ | ⟨a1, ⟨ct1, bt1, bo1, a2⟩, a3⟩
    · rw [a2, obind_ret, a4 n1]
      dsimp only
      rcases ih (i + 1) F' ct1 bt1 bo1 z1 vo1 n1 n2 (by omega) (by omega) (by omega) (by omega) a5 with ⟨Fs, ct, bt', bo', at', z', vo', c', b1, b2, b3, b4, b5, b6, b7⟩ | ⟨ct, bt', bo', at', t, b1, b2, b3⟩
      · have hFk : ∀ k, i + 1 ≤ k → (fun k => if k = i then F else Fs k) k = Fs k := fun k hk => if_neg (by omega)
        obtain ⟨x1, x2, x3, x4, x5⟩ := a3
        obtain ⟨y1, y2⟩ := b7
        refine Or.inl ⟨fun k => if k = i then F else Fs k, ct, bt', bo', at', z', vo', c', if_pos rfl, fun k h1 h2 => ?_, ?_, b4, b5, fun k h1 h2 => ?_, fun j hj => ?_, fun l hl => ?_⟩
        · rw [hFk (k + 1) (by omega)]
          by_cases hk : k = i
          · subst hk
            show stAt M1 Mp M3 Mj Ml M5 M6 g C stk k (if k = k then F else Fs k) = _
            rw [if_pos rfl, a1, b1]
          · rw [hFk k (by omega)]; exact b2 k (by omega) h2
        · obtain ⟨x, y, q1, q2⟩ := b3
          exact ⟨x, y, by rw [hFk e (by omega)]; exact q1, q2⟩
        · rw [hFk (k + 1) (by omega)]
          by_cases hk : k = i
          · subst hk
            obtain ⟨z1, z2⟩ := y1 k (by omega)
            refine ⟨fun q => by rw [z1, x2 q, b1], fun q => by rw [z2, x3 q], fun q l hl => ?_⟩
            obtain ⟨t1, t2, t3⟩ := hTB.2 k hs (by omega) q
            have hv0 : 0 ≤ (C.values k).toInt := by
              obtain ⟨nn, ll, q1, d1, d2, d3, d4, d5, d6⟩ := (hPD k hs (by omega)).2.2.2.2.2.2.2.1 q
              rw [d3, Int32.toInt_toInt64, iI_t (by omega)]; omega
            rw [y2 l (fun k' u1 u2 u3 u4 => by have := t3 k' (by omega) u2 u3; omega)]
            have := x4 q (l - (C.extras k).toNat) (by omega)
            rw [show (C.extras k).toNat + (l - (C.extras k).toNat) = l by omega] at this
            exact this
          · exact b6 k (by omega) h2
        · by_cases hk : j = i
          · subst hk; exact absurd ⟨Nat.le_refl _, by omega⟩ hj
          · obtain ⟨z1, z2⟩ := y1 j (by omega)
            obtain ⟨w1, w2⟩ := x1 j hk
            exact ⟨z1.trans w1, z2.trans w2⟩
        · rw [y2 l (fun k u1 u2 u3 => hl k (by omega) u2 u3)]
          exact x5 l (fun q => hl i (Nat.le_refl _) (by omega) q.1 q.2)
      · exact Or.inr ⟨ct, bt', bo', at', t, b1, b2, b3⟩
    · rw [a2, obind_ret]
      obtain ⟨n2, rfl⟩ : ∃ q, n2 = q + 1 := ⟨n2 - 1, by omega⟩
      obtain ⟨t, t1, t2⟩ := a3 n1
      dsimp only
      rw [ac_fail]
      exact Or.inr ⟨_, _, _, _, t, rfl, t1, t2⟩
/-- a function that both find good: its types, and what the class's tables hold of it -/
def VFn (M1 : KM1) (Mp : KMp) (M3 : KM3) (Mj : KMj) (Ml : KMl) (M5 : KM5) (M6 : KM6) (g : Nat) (C : KCo) (stk : Nat → List Nat) (s e : Nat) (Fs : Nat → SS) (ct : KCt) : Prop := Fs s = [([], false, res M1 M3 g, res M1 M3 g)] ∧ (∀ k, s ≤ k → k < e → stAt M1 Mp M3 Mj Ml M5 M6 g C stk k (Fs k) = some (Fs (k + 1))) ∧ (∃ x y, Fs e = [x] ∧ x.2.2.2 = res M1 M3 g ∧ popO (res M1 M3 g) x = some y ∧ y.1 = []) ∧ CtF C stk Fs s e ct
set_option maxRecDepth 20000 in
theorem fn_valid (hfu : 2100 < fu) (hM : MOk W1 W3 M1 Mp M3) (hg : (g : Int) < M3.functions) (hLo : LOk Wj Mj Ml g) (h5 : R5 W5 M5) (h6 : R6 W6 M6)
    (hse : s ≤ e) (hps : pos s = Mj.codeAt g) (hst : Wj.starts g = s) (hce : Mj.codeEnd g = L)
    (hPD : PD f C.ops C.extras C.labels C.values C.labelCount s e pos) (hSK : SK C.ops C.ends C.elses s e stk) (hste : stk e = []) (hlc : C.labelCount ≤ 2000) (he : e < 2000) (hsz : (e : Int) < C.size) (hop : C.ops e = 256) (hb : by8 (f (pos e).toNat) = 11) (hp0 : 0 ≤ pos e) (hLe : L = pos e + 1) (hL : L ≤ 2000) {l0 l1 : Int} (hTB : TB C.ops C.extras C.values l0 l1 s e) (hl0 : 0 ≤ l0) {Ct : KCt} {bv : KBV} {bt : KBt} {bo : KBo} {z : KVt} {vo : KVo} {vf : KVf} {mc : KMc} :
    (∃ (Fs : Nat → SS) (ct : KCt) (bv' : KBV) (bt' : KBt) (bo' : KBo) (z' : KVt) (vo' : KVo) (vf' : KVf) (c' : KMc), f_BV_accepts fu C Ct W1 W3 Wj W5 W6 bv bt bo g = .ret (ct, bv', bt', bo', true) ∧ f_Mo_validCode fu r mc z vo vf (KMt.mk f n) M1 Mp M3 Mj Ml M5 M6 g = .ret (r, c', z', vo', vf') ∧ VFn M1 Mp M3 Mj Ml M5 M6 g C stk s e Fs ct ∧ CtFr C s e Ct ct) ∨
    (∃ (ct : KCt) (bv' : KBV) (bt' : KBt) (bo' : KBo) (t : KRf × KMc × KVt × KVo × KVf), f_BV_accepts fu C Ct W1 W3 Wj W5 W6 bv bt bo g = .ret (ct, bv', bt', bo', false) ∧ f_Mo_validCode fu r mc z vo vf (KMt.mk f n) M1 Mp M3 Mj Ml M5 M6 g = .thr t ∧ t.1 = 2) := by
  obtain ⟨T1, a1, a2, a3, a4, a5, a6⟩ := hM.ty hg
  have hrs := hM.rs hg
  obtain ⟨hh, ll, oo, kk, lo, dd⟩ := vo
  obtain ⟨sk, tp⟩ := z
  obtain ⟨ty, ht⟩ := bt
  obtain ⟨op, ba, bty, lty, un, oc⟩ := bo
  -- the function's own block
  have eo : f_BV_openBlock Ct (KBV.mk (g : Int) false) (KBt.mk ty 0) (KBo.mk op ba bty lty un 0) (-1) (rT (res M1 M3 g)) (rT (res M1 M3 g)) = .ret (Ct, KBV.mk (g : Int) false, KBo.mk (updZ op 0 (-1)) (updZ ba 0 0) (updZ bty 0 (rT (res M1 M3 g))) (updZ lty 0 (rT (res M1 M3 g))) (updB un 0 false) 1) := by
    unfold f_BV_openBlock
    simp only [jp]
    rfl
  have ee : f_Mo_enter (KVt.mk sk 0) (KVo.mk hh ll oo kk lo 0) 0 (res M1 M3 g) (res M1 M3 g) = .ret (KVo.mk (updZ hh 0 0) (updZ ll 0 (res M1 M3 g)) (updZ oo 0 (res M1 M3 g)) (updZ kk 0 0) (updB lo 0 false) 1) := by
    unfold f_Mo_enter
    rfl
  have hI : VI M1 M3 g s C stk s [([], false, res M1 M3 g, res M1 M3 g)] (KBt.mk ty 0) (KBo.mk (updZ op 0 (-1)) (updZ ba 0 0) (updZ bty 0 (rT (res M1 M3 g))) (updZ lty 0 (rT (res M1 M3 g))) (updB un 0 false) 1) (KVt.mk sk 0) (KVo.mk (updZ hh 0 0) (updZ ll 0 (res M1 M3 g)) (updZ oo 0 (res M1 M3 g)) (updZ kk 0 0) (updB lo 0 false) 1) := by
    refine ⟨⟨rfl, trivial⟩, ⟨⟨(show updZ ba 0 0 0 = 0 from updZ_s _ _ _), (show updB un 0 false 0 = false from updB_s _ _ _), (show updZ lty 0 (rT (res M1 M3 g)) 0 = rT (res M1 M3 g) from updZ_s _ _ _), (show updZ bty 0 (rT (res M1 M3 g)) 0 = rT (res M1 M3 g) from updZ_s _ _ _), hrs, hrs, trivial⟩, rfl, (show 1 ≤ 101 by decide)⟩, ?_, ⟨rfl, trivial⟩, ⟨⟨(show updZ hh 0 0 0 = 0 from updZ_s _ _ _), (show updB lo 0 false 0 = false from updB_s _ _ _), (show updZ ll 0 (res M1 M3 g) 0 = res M1 M3 g from updZ_s _ _ _), (show updZ oo 0 (res M1 M3 g) 0 = res M1 M3 g from updZ_s _ _ _), hrs, hrs, trivial⟩, rfl, (show 1 ≤ 101 by decide)⟩, ?_, ?_, rfl, by show 0 + s ≤ s; omega⟩
    · rw [hSK.1]; exact (show updZ op 0 (-1) 0 = -1 from updZ_s _ _ _)
    · rw [hSK.1]; exact (show updZ kk 0 0 0 = 0 from updZ_s _ _ _)
    · rw [hSK.1]; rfl
  unfold f_BV_accepts f_Mo_validCode
  rw [wa_rs hM hg, obind_ret]
  try dsimp only
  rw [eo, obind_ret, if_pos (by omega), if_pos (by omega), if_pos (by omega), mo_ty hM hg, obind_ret, if_pos (by omega), Int.toNat_natCast, Int.toNat_natCast, hst, ← hps, hce]
  try dsimp only
  rw [ee, obind_ret]
  simp only [jp]
  rcases lp_valid (fu := fu) (r := r) (n := n) (by omega) hM hg hLo h5 h6 hPD hSK hste hlc he hsz hop hb hp0 hLe hL hTB hl0 (e - s) s _ Ct _ _ _ _ fu fu (by omega) (Nat.le_refl _) (by omega) (by omega) hI with ⟨Fs, ct, bt', bo', at', z', vo', c', b1, b2, b3, b4, b5, b6, b7⟩ | ⟨ct, bt', bo', at', t, b1, b2, b3⟩
  · rw [b4, b5, obind_ret, obind2_ret]
    dsimp only
    rw [if_neg (show ¬ (KBV.mk (g : Int) false).failed = true from Bool.false_ne_true)]
    exact Or.inl ⟨Fs, _, _, _, _, _, _, _, _, rfl, rfl, ⟨b1, b2, b3, b6⟩, b7⟩
  · rw [b1, b2, obind_ret, obind2_thr]
    dsimp only
    rw [if_pos (show (KBV.mk (g : Int) true).failed = true from rfl)]
    exact Or.inr ⟨_, _, _, _, t, rfl, rfl, b3⟩
end FUN
