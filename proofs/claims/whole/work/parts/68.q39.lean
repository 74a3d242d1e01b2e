/-! VALID: the reference's blocks and branches -/
set_option maxRecDepth 20000 in
theorem ROr.get {vo : KVo} : ∀ (F : SS) (k : Nat) (x : Fr), F[k]? = some x → ROr vo F → k < F.length ∧ vo.labels (F.length - 1 - k) = x.2.2.1 ∧ Ty0 x.2.2.1
  | [], _, _, h, _ => by cases h
  | y :: R, 0, x, h, ⟨_, _, h3, _, h5, _, _⟩ => by cases h; exact ⟨by rw [List.length_cons]; omega, by rw [List.length_cons]; exact h3, h5⟩
  | y :: R, k + 1, x, h, ⟨_, _, _, _, _, _, h7⟩ => by
    obtain ⟨a, b, c⟩ := ROr.get R k x (by simpa using h) h7
    exact ⟨by rw [List.length_cons]; omega, by rw [List.length_cons, show R.length + 1 - 1 - (k + 1) = R.length - 1 - k by omega]; exact b, c⟩
set_option maxRecDepth 20000 in
theorem ROr.cg {vo vo' : KVo} : ∀ (F : SS), (∀ k, k < F.length → vo'.heights k = vo.heights k ∧ vo'.lost k = vo.lost k ∧ vo'.labels k = vo.labels k ∧ vo'.outs k = vo.outs k) → ROr vo F → ROr vo' F
  | [], _, _ => trivial
  | x :: R, h, ⟨h1, h2, h3, h4, h5, h6, h7⟩ => by
    obtain ⟨a, b, c, d⟩ := h R.length (by rw [List.length_cons]; omega)
    exact ⟨a.trans h1, b.trans h2, c.trans h3, d.trans h4, h5, h6, ROr.cg R (fun k hk => h k (by rw [List.length_cons]; omega)) h7⟩
/-- the whole of what the reference has behind an instruction -/
def Rx {τ : Type} (r q L : Int) (T : τ → Prop) (kd : Nat → Int) (N : Nat) (F : Out τ (KRf × KMc × KVt × KVo)) (X : Option SS) : Prop := (∃ F' z vo, X = some F' ∧ F = .ret (r, KMc.mk q L, z, vo) ∧ ST z F' ∧ VOk vo F' ∧ vo.kinds = kd ∧ tot F' ≤ N) ∨ (∃ t, X = none ∧ F = .thr t ∧ T t)
section RCT
variable {fu g i : Nat} {f : Nat → Int32} {r n L p1 q e lc : Int} {R : SS} {N : Nat} {vo : KVo} {z : KVt} {x : Fr} {W1 : KW1} {W3 : KW3} {M1 : KM1} {Mp : KMp} {M3 : KM3} {Mj : KMj} {Ml : KMl} {M5 : KM5} {M6 : KM6} {o : Int} {lab : Nat → Int} {v : Int64}
set_option maxRecDepth 20000 in
theorem Rx.no {τ : Type} {T : τ → Prop} {kd : Nat → Int} {t : τ} (h : T t) : Rx r q L T kd N (.thr t : Out τ (KRf × KMc × KVt × KVo)) none := Or.inr ⟨t, rfl, rfl, h⟩
set_option maxRecDepth 20000 in
theorem r_lose (hV : VOk vo (x :: R)) (hT : ST z (x :: R)) (hn : tot (x :: R) ≤ N) : ∃ z' vo', f_Mo_lose z vo = .ret (z', vo') ∧ ST z' (loseA x :: R) ∧ VOk vo' (loseA x :: R) ∧ vo'.kinds = vo.kinds ∧ tot (loseA x :: R) ≤ N := by
  obtain ⟨⟨h1, h2, h3, h4, h5, h6, h7⟩, h8, h9⟩ := hV
  rw [List.length_cons] at h8 h9
  have e1 : (vo.depth - 1).toNat = R.length := by omega
  unfold f_Mo_lose
  rw [if_pos (show R32 (vo.depth - 1) by omega), if_pos (show 0 ≤ vo.depth - 1 ∧ vo.depth - 1 < 102 by omega), if_pos (show R32 (vo.depth - 1) by omega), if_pos (show 0 ≤ vo.depth - 1 ∧ vo.depth - 1 < 102 by omega), e1, h1]
  rw [tot_cons] at hn
  have et : tot (loseA x :: R) = tot R := by rw [tot_cons]; show 0 + tot R = _; omega
  refine ⟨_, _, rfl, ⟨et ▸ rfl, ALr.app x.1 (flat R) hT.2⟩, ⟨⟨h1, updB_s _ _ _, h3, h4, h5, h6, ROr.cg (vo := vo) R (fun k hk => ⟨rfl, updB_n (show k ≠ R.length by omega), rfl, rfl⟩) h7⟩, by rw [List.length_cons]; exact h8, by rw [List.length_cons]; exact h9⟩, rfl, by omega⟩
set_option maxRecDepth 20000 in
theorem r_enter {F : SS} {lb out kd : Int} (hl : Ty0 lb) (ho : Ty0 out) (hV : ROr vo F) (hc : vo.depth = (F.length : Int)) (hF : F.length ≤ 100) (hT : ST z F) : ∃ vo', f_Mo_enter z vo kd lb out = .ret vo' ∧ VOk vo' (([], false, lb, out) :: F) ∧ vo'.kinds = updZ vo.kinds F.length kd := by
  have hR : 0 ≤ vo.depth ∧ vo.depth < 102 := by omega
  unfold f_Mo_enter
  rw [if_pos hR, if_pos hR, if_pos hR, if_pos hR, if_pos hR, if_pos (show R32 (vo.depth + 1) by omega), hT.1, show vo.depth.toNat = F.length by omega]
  refine ⟨_, rfl, ⟨⟨updZ_s _ _ _, updB_s _ _ _, updZ_s _ _ _, updZ_s _ _ _, hl, ho, ROr.cg (vo := vo) F (fun k hk => ⟨updZ_n (show k ≠ F.length by omega), updB_n (show k ≠ F.length by omega), updZ_n (show k ≠ F.length by omega), updZ_n (show k ≠ F.length by omega)⟩) hV⟩, ?_, by rw [List.length_cons]; omega⟩, rfl⟩
  show vo.depth + 1 = _
  rw [List.length_cons]; omega
set_option maxRecDepth 20000 in
theorem r_label {F : SS} {w : Int64} (hV : VOk vo F) (h0 : 0 ≤ w.toInt) (h1 : w.toInt ≤ 2147483647) : f_Mo_label r vo w = match labA F w.toInt with | some l => .ret (r, l) | none => .thr 2 := by
  obtain ⟨h7, h8, h9⟩ := hV
  unfold f_Mo_label
  simp only [jp_ite]
  simp only [jp, vl_ite']
  rw [h8, Int32.toInt_toInt64, iI_t (by omega)]
  cases hl : labA F w.toInt with
  | none => rw [if_pos (by have := labA_none h0 hl; omega)]
  | some l =>
    obtain ⟨u, u1, u2, u3⟩ := labA_some h0 hl
    obtain ⟨j1, j2, j3⟩ := ROr.get _ _ _ u1 h7
    have e : ((iI ((F.length : Int) - 1)) - w.toInt32).toInt = (F.length : Int) - 1 - w.toInt := by
      have : w.toInt32 = iI w.toInt := by
        apply Int32.toInt_inj.mp
        rw [iI_t (by omega), Int64.toInt_toInt32, Int.bmod_eq_of_le (by omega) (by omega)]
      rw [this, iI_sub, iI_t (by omega)]
    rw [if_neg (by omega), if_pos (show R32 ((F.length : Int) - 1) by omega), e, if_pos (by omega), show ((F.length : Int) - 1 - w.toInt).toNat = F.length - 1 - w.toInt.toNat by omega, j2, u2]
set_option maxRecDepth 20000 in
theorem ST.nil {b : Bool} {l o : Int} {F : SS} (h : ST z F) : ST z (([], b, l, o) :: F) := ⟨by rw [tot_nil]; exact h.1, h.2⟩
set_option maxRecDepth 20000 in
theorem r_c0 (hd : DecI f 0 v e lab lc p1 q) (hV : VOk vo (x :: R)) (hT : ST z (x :: R)) (hn : tot (x :: R) ≤ N) : Rx r q L (fun t : KRf × KMc × KVt × KVo => t.1 = 2) vo.kinds (N + 1) (f_Mo_validStep fu r (KMc.mk p1 L) z vo (g : Int) (KMt.mk f n) M1 Mp M3 Mj Ml M5 M6 0) (some (loseA x :: R)) := by
  have k1 : q = p1 := hd.2.2.2.2.2.2.2 (by omega)
  subst k1
  unfold f_Mo_validStep
  simp only [jp, reduceIte]
  obtain ⟨z', vo', e1, h1, h2, h3, h4⟩ := r_lose hV hT hn
  rw [e1, obind_ret]
  exact Or.inl ⟨_, _, _, rfl, rfl, h1, h2, h3, by omega⟩
set_option maxRecDepth 20000 in
theorem r_c1 (hd : DecI f 1 v e lab lc p1 q) (hV : VOk vo (x :: R)) (hT : ST z (x :: R)) (hn : tot (x :: R) ≤ N) : Rx r q L (fun t : KRf × KMc × KVt × KVo => t.1 = 2) vo.kinds (N + 1) (f_Mo_validStep fu r (KMc.mk p1 L) z vo (g : Int) (KMt.mk f n) M1 Mp M3 Mj Ml M5 M6 1) (some (x :: R)) := by
  have k1 : q = p1 := hd.2.2.2.2.2.2.2 (by omega)
  subst k1
  unfold f_Mo_validStep
  simp only [jp, Int.reduceEq, reduceIte]
  exact Or.inl ⟨_, _, _, rfl, rfl, hT, hV, rfl, by omega⟩
set_option maxRecDepth 20000 in
theorem r_c2 (ho : o = 2 ∨ o = 3) (hd : DecI f o v e lab lc p1 q) (h0 : 0 ≤ p1) (hqL : q ≤ L) (hL : L ≤ 2000) (hV : VOk vo (x :: R)) (hl : R.length < 100) (hT : ST z (x :: R)) (hn : tot (x :: R) ≤ N) : Rx r q L (fun t : KRf × KMc × KVt × KVo => t.1 = 2) (updZ vo.kinds (x :: R).length o) (N + 1) (f_Mo_validStep fu r (KMc.mk p1 L) z vo (g : Int) (KMt.mk f n) M1 Mp M3 Mj Ml M5 M6 o) (some (([], false, (if o = 3 then 0 else uT e), uT e) :: x :: R)) := by
  obtain ⟨k1, k2, k3⟩ := hd.1 (by omega)
  obtain ⟨h8, h9⟩ := rT_uT k3
  subst k1
  have tL : Ty0 (if o = 3 then 0 else uT e) := by
    by_cases c : o = 3
    · rw [if_pos c]; exact Or.inl rfl
    · rw [if_neg c]; exact h9
  obtain ⟨vo', e1, b1, b2⟩ := r_enter (kd := o) tL h9 hV.1 hV.2.1 (by rw [List.length_cons]; omega) hT
  have : f_Mo_validStep fu r (KMc.mk p1 L) z vo (g : Int) (KMt.mk f n) M1 Mp M3 Mj Ml M5 M6 o = obind2 (f_Mo_one r (KMc.mk p1 L) (KMt.mk f n)) (fun x_5 => obind (f_Mo_enter z vo o (if o = 3 then 0 else uT x_5.2.2) (uT x_5.2.2)) (fun x_13 => .ret (x_5.1, x_5.2.1, z, x_13))) (fun x_5 => .thr (x_5.1, x_5.2, z, vo)) := by
    unfold f_Mo_validStep
    rcases ho with q | q
    · subst q
      simp only [jp, Int.reduceEq, reduceIte]
      congr 1; funext y
      show (if y.2.2 = 64 then _ else _) = obind (f_Mo_enter z vo 2 (if y.2.2 = 64 then 0 else y.2.2) (if y.2.2 = 64 then 0 else y.2.2)) _
      by_cases c : y.2.2 = 64
      · rw [if_pos c, if_pos c]
      · rw [if_neg c, if_neg c]
    · subst q
      simp only [jp, Int.reduceEq, reduceIte]
      congr 1; funext y
      show (if y.2.2 = 64 then _ else _) = obind (f_Mo_enter z vo 3 0 (if y.2.2 = 64 then 0 else y.2.2)) _
      by_cases c : y.2.2 = 64
      · rw [if_pos c, if_pos c]
      · rw [if_neg c, if_neg c]
  rw [this, mo_one h0 (by omega) hL, obind2_ret]
  dsimp only
  rw [← k2, e1, obind_ret]
  exact Or.inl ⟨_, _, _, rfl, rfl, hT.nil, b1, b2, by rw [tot_nil]; omega⟩
set_option maxRecDepth 20000 in
theorem r_c4 (hd : DecI f 4 v e lab lc p1 q) (h0 : 0 ≤ p1) (hqL : q ≤ L) (hL : L ≤ 2000) (hV : VOk vo (x :: R)) (hl : R.length < 100) (hT : ST z (x :: R)) (hn : tot (x :: R) ≤ N) (hN : N < 2000) : Rx r q L (fun t : KRf × KMc × KVt × KVo => t.1 = 2) (updZ vo.kinds (x :: R).length 4) (N + 1) (f_Mo_validStep fu r (KMc.mk p1 L) z vo (g : Int) (KMt.mk f n) M1 Mp M3 Mj Ml M5 M6 4) ((popA 127 x).map (fun y => ([], false, uT e, uT e) :: y.2 :: R)) := by
  obtain ⟨k1, k2, k3⟩ := hd.1 (by omega)
  obtain ⟨h8, h9⟩ := rT_uT k3
  subst k1
  have : f_Mo_validStep fu r (KMc.mk p1 L) z vo (g : Int) (KMt.mk f n) M1 Mp M3 Mj Ml M5 M6 4 = obind2 (f_Mo_one r (KMc.mk p1 L) (KMt.mk f n)) (fun x_5 => obind2 (f_Mo_pop x_5.1 z vo 127) (fun x_17 => obind (f_Mo_enter x_17.2.1 vo 4 (uT x_5.2.2) (uT x_5.2.2)) (fun x_13 => .ret (x_17.1, x_5.2.1, x_17.2.1, x_13))) (fun x_17 => .thr (x_17.1, x_5.2.1, x_17.2, vo))) (fun x_5 => .thr (x_5.1, x_5.2, z, vo)) := by
    unfold f_Mo_validStep
    simp only [jp, Int.reduceEq, reduceIte]
    congr 1; funext y
    have eu : uT y.2.2 = if y.2.2 = 64 then 0 else y.2.2 := rfl
    rw [eu]
    by_cases c : y.2.2 = 64
    · simp only [if_pos c]
    · simp only [if_neg c]
  rw [this, mo_one h0 (by omega) hL, obind2_ret]
  dsimp only
  rw [← k2]
  rcases r_pop (r := r) (show Ty0 127 by decide) hV hT hn (by omega) with ⟨y, z', e1, e2, e3, e4, e5⟩ | ⟨t, e1, e2, e3⟩
  · rw [e1, e2, obind2_ret]
    dsimp only
    have hV' := hV.vs (popA_snd e1)
    obtain ⟨vo', f1, b1, b2⟩ := r_enter (kd := 4) h9 h9 hV'.1 hV'.2.1 (by rw [List.length_cons]; omega) e4
    rw [f1, obind_ret]
    exact Or.inl ⟨_, _, _, rfl, rfl, e4.nil, b1, b2, by rw [tot_nil]; omega⟩
  · rw [e1, e2, obind2_thr]
    exact Rx.no e3
set_option maxRecDepth 20000 in
theorem nil_iffR {y : Fr} (hT : ST z (y :: R)) : z.top = (tot R : Int) ↔ y.1 = [] := by
  rw [hT.1, tot_cons]
  constructor
  · intro h; exact List.eq_nil_of_length_eq_zero (by omega)
  · intro h; rw [h]; show ((0 + tot R : Nat) : Int) = _; omega
set_option maxRecDepth 20000 in
theorem r_c5 (hd : DecI f 5 v e lab lc p1 q) (hV : VOk vo (x :: R)) (hT : ST z (x :: R)) (hn : tot (x :: R) ≤ N) (hN : N < 2000) : Rx r q L (fun t : KRf × KMc × KVt × KVo => t.1 = 2) (updZ vo.kinds R.length 5) (N + 1) (f_Mo_validStep fu r (KMc.mk p1 L) z vo (g : Int) (KMt.mk f n) M1 Mp M3 Mj Ml M5 M6 5) ((popO x.2.2.2 x).bind (fun y => if y.1 = [] then some (([], false, x.2.2) :: R) else none)) := by
  have k1 : q = p1 := hd.2.2.2.2.2.2.2 (by omega)
  subst k1
  have hV' := hV
  obtain ⟨⟨h1, h2, h3, h4, h5, h6, h7⟩, h8, h9⟩ := hV
  rw [List.length_cons] at h8 h9
  have e1 : (vo.depth - 1).toNat = R.length := by omega
  have hR : 0 ≤ vo.depth - 1 ∧ vo.depth - 1 < 102 := by omega
  unfold f_Mo_validStep
  simp only [jp, Int.reduceEq, reduceIte, if_pos hR, if_pos (show R32 (vo.depth - 1) by omega), e1, h1, h4]
  rcases r_popO (r := r) h6 hV' hT hn (by omega) with ⟨y, z', f1, f2, f3, f4⟩ | ⟨t, f1, f2, f3⟩
  · rw [f1, f2, obind2_ret]
    dsimp only [Option.bind]
    by_cases c : y.1 = []
    · rw [if_pos ((nil_iffR f3).mpr c), if_pos c, mo_val, obind2_ret]
      have rt : ST z' (([], false, x.2.2) :: R) := by
        obtain ⟨a, b⟩ := f3
        have hfl : flat (y :: R) = flat (([], false, x.2.2) :: R) := by show y.1 ++ flat R = [] ++ flat R; rw [c]
        exact ⟨by rw [a]; unfold tot; rw [hfl], by rw [← hfl]; exact b⟩
      exact Or.inl ⟨_, _, _, rfl, rfl, rt, ⟨⟨h1, updB_s _ _ _, h3, h4, h5, h6, ROr.cg (vo := vo) R (fun k hk => ⟨rfl, updB_n (show k ≠ R.length by omega), rfl, rfl⟩) h7⟩, by rw [List.length_cons]; exact h8, by rw [List.length_cons]; exact h9⟩, rfl, by rw [tot_nil]; rw [tot_cons] at hn; omega⟩
    · rw [if_neg (fun q => c ((nil_iffR f3).mp q)), if_neg c, mo_valE, obind2_thr]
      exact Rx.no rfl
  · rw [f1, f2, obind2_thr]
    exact Rx.no f3
set_option maxRecDepth 20000 in
theorem r_c12 (hfu : 10 < fu) (hd : DecI f 12 v e lab lc p1 q) (hqL : q ≤ L) (hL : L ≤ 2000) (hV : VOk vo (x :: R)) (hT : ST z (x :: R)) (hn : tot (x :: R) ≤ N) (hN : N < 2000) : Rx r q L (fun t : KRf × KMc × KVt × KVo => t.1 = 2) vo.kinds (N + 1) (f_Mo_validStep fu r (KMc.mk p1 L) z vo (g : Int) (KMt.mk f n) M1 Mp M3 Mj Ml M5 M6 12) ((labA (x :: R) v.toInt).bind (fun l => (popO l x).map (fun y => loseA y :: R))) := by
  obtain ⟨i1, i2, i3⟩ := hd.2.1 (by omega)
  unfold f_Mo_validStep
  simp only [jp, Int.reduceEq, reduceIte]
  rw [i1.2.2 fu r n L (by omega) hqL hL, obind2_ret]
  dsimp only
  rw [v64 i2 i3, r_label hV i2 i3]
  cases hl : labA (x :: R) v.toInt with
  | none => dsimp only; rw [obind2_thr]; exact Rx.no rfl
  | some l =>
    obtain ⟨u, u1, u2, u3⟩ := labA_some i2 hl
    obtain ⟨j1, j2, j3⟩ := ROr.get _ _ _ u1 hV.1
    rw [u2] at j3
    dsimp only [Option.bind]
    rw [obind2_ret]
    dsimp only
    rcases r_popO (r := r) j3 hV hT hn (by omega) with ⟨y, z', f1, f2, f3, f4⟩ | ⟨t, f1, f2, f3⟩
    · rw [f1, f2, obind2_ret]
      dsimp only
      obtain ⟨z2, vo2, g1, g2, g3, g4, g5⟩ := r_lose (hV.vs (popO_snd f1)) f3 f4
      rw [g1, obind_ret]
      exact Or.inl ⟨_, _, _, rfl, rfl, g2, g3, g4, (by show tot (loseA _ :: R) ≤ N + 1; omega)⟩
    · rw [f1, f2, obind2_thr]; exact Rx.no f3
set_option maxRecDepth 20000 in
theorem r_c13 (hfu : 10 < fu) (hd : DecI f 13 v e lab lc p1 q) (hqL : q ≤ L) (hL : L ≤ 2000) (hV : VOk vo (x :: R)) (hT : ST z (x :: R)) (hn : tot (x :: R) ≤ N) (hN : N < 2000) : Rx r q L (fun t : KRf × KMc × KVt × KVo => t.1 = 2) vo.kinds (N + 1) (f_Mo_validStep fu r (KMc.mk p1 L) z vo (g : Int) (KMt.mk f n) M1 Mp M3 Mj Ml M5 M6 13) ((labA (x :: R) v.toInt).bind (fun l => (popA 127 x).bind (fun y => (popO l y.2).map (fun z => pushA l z :: R)))) := by
  obtain ⟨i1, i2, i3⟩ := hd.2.1 (by omega)
  unfold f_Mo_validStep
  simp only [jp, Int.reduceEq, reduceIte]
  rw [i1.2.2 fu r n L (by omega) hqL hL, obind2_ret]
  dsimp only
  rw [v64 i2 i3, r_label hV i2 i3]
  cases hl : labA (x :: R) v.toInt with
  | none => dsimp only; rw [obind2_thr]; exact Rx.no rfl
  | some l =>
    obtain ⟨u, u1, u2, u3⟩ := labA_some i2 hl
    obtain ⟨j1, j2, j3⟩ := ROr.get _ _ _ u1 hV.1
    rw [u2] at j3
    dsimp only [Option.bind]
    rw [obind2_ret]
    dsimp only
    rcases r_pop (r := r) (show Ty0 127 by decide) hV hT hn (by omega) with ⟨y, z', e1, e2, e3, e4, e5⟩ | ⟨t, e1, e2, e3⟩
    · rw [e1, e2, obind2_ret]
      dsimp only
      have hV' := hV.vs (popA_snd e1)
      rcases r_popO (r := r) j3 hV' e4 e5 (by omega) with ⟨w, z2, f1, f2, f3, f4⟩ | ⟨t, f1, f2, f3⟩
      · rw [f1, f2, obind2_ret]
        dsimp only
        obtain ⟨z3, g1, g2, g3⟩ := r_push j3 f3 f4 hN
        rw [g1, obind_ret]
        refine Or.inl ⟨_, _, _, rfl, rfl, g2, ?_, rfl, g3⟩
        refine (hV'.vs (popO_snd f1)).vs ?_
        unfold pushA
        split <;> rfl
      · rw [f1, f2, obind2_thr]; exact Rx.no f3
    · rw [e1, e2, obind2_thr]; exact Rx.no e3
set_option maxRecDepth 20000 in
theorem r_c15 (hM : MOk W1 W3 M1 Mp M3) (hg : (g : Int) < M3.functions) (hbot : vo.outs 0 = res M1 M3 g) (hd : DecI f 15 v e lab lc p1 q) (hV : VOk vo (x :: R)) (hT : ST z (x :: R)) (hn : tot (x :: R) ≤ N) (hN : N < 2000) : Rx r q L (fun t : KRf × KMc × KVt × KVo => t.1 = 2) vo.kinds (N + 1) (f_Mo_validStep fu r (KMc.mk p1 L) z vo (g : Int) (KMt.mk f n) M1 Mp M3 Mj Ml M5 M6 15) ((popO (res M1 M3 g) x).map (fun y => loseA y :: R)) := by
  have k1 : q = p1 := hd.2.2.2.2.2.2.2 (by omega)
  subst k1
  unfold f_Mo_validStep
  simp only [jp, Int.reduceEq, reduceIte]
  first
  | rw [if_pos (by decide)]
  | skip
  rw [show vo.outs (Int.toNat 0) = res M1 M3 g from hbot]
  rcases r_popO (r := r) (hM.rs hg) hV hT hn (by omega) with ⟨y, z', f1, f2, f3, f4⟩ | ⟨t, f1, f2, f3⟩
  · rw [f1, f2, obind2_ret]
    dsimp only
    obtain ⟨z2, vo2, g1, g2, g3, g4, g5⟩ := r_lose (hV.vs (popO_snd f1)) f3 f4
    rw [g1, obind_ret]
    exact Or.inl ⟨_, _, _, rfl, rfl, g2, g3, g4, (by show tot (loseA _ :: R) ≤ N + 1; omega)⟩
  · rw [f1, f2, obind2_thr]; exact Rx.no f3
end RCT
