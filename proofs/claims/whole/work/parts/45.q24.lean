/-! THE CODE: all functions -/
/-- the functions below t -/
def CRel (f : Nat → Int32) (t : Nat) (C : KCo) (M : KMe) (st lcs lo ca ce lcm : Nat → Int) (ml : Nat → Nat → Int) (a : Int) : Prop := ∃ (ee : Nat → Nat) (l0 l1 : Nat → Int), (∀ g, g < t → FnOk f C M st lcs lo ca ce lcm ml a (ee g) (l0 g) (l1 g) g) ∧ ∀ g g', g < g' → g' < t → (ee g : Int) < st g' ∧ l1 g ≤ l0 g'
set_option maxRecDepth 20000 in
theorem CRel.nil {f : Nat → Int32} {C : KCo} {M : KMe} {st lcs lo ca ce lcm : Nat → Int} {ml : Nat → Nat → Int} {a : Int} : CRel f 0 C M st lcs lo ca ce lcm ml a := ⟨fun _ => 0, fun _ => 0, fun _ => 0, fun g h => absurd h (by omega), fun g g' _ h => absurd h (by omega)⟩
def updN (g : Nat → Nat) (k x : Nat) : Nat → Nat := fun j => if j = k then x else g j
set_option maxRecDepth 20000 in
theorem updN_s (g : Nat → Nat) (k x : Nat) : updN g k x k = x := if_pos rfl
set_option maxRecDepth 20000 in
theorem updN_n {g : Nat → Nat} {k j x : Nat} (h : j ≠ k) : updN g k x j = g j := if_neg h
section CDS
variable {fu : Nat} {f : Nat → Int32} {L n r : Int} {m1 : KM1} {mp : KMp} {z3 : KM3} {z5 : KM5} {z6 : KM6} {z7 : KM7}
set_option maxRecDepth 20000 in
theorem mcs_end {c : KMc} {tp : KMt} {zk : KMk} {zj : KMj} {zl : KMl} {ze : KMe} {t : Int} {n1 : Nat} (h : zj.codes ≤ t) : L583_Mo_sectionOf fu tp m1 mp z3 z5 z6 z7 (n1 + 1) r c zk zj zl ze t = .ret (r, c, zk, zj, zl, ze, t) := by
  rw [L583_Mo_sectionOf.eq_2, if_pos h]
set_option maxRecDepth 20000 in
theorem mcs_step {c : KMc} {tp : KMt} {zk : KMk} {zj : KMj} {zl : KMl} {ze : KMe} {t : Nat} {n1 : Nat} (h : ¬ zj.codes ≤ t) (ht : t < 30) : L583_Mo_sectionOf fu tp m1 mp z3 z5 z6 z7 (n1 + 1) r c zk zj zl ze t = obind2 (f_Mo_codeOf fu r c zk tp zj zl ze t) (fun x => L583_Mo_sectionOf fu tp m1 mp z3 z5 z6 z7 n1 x.1 x.2.1 x.2.2.1 x.2.2.2.1 x.2.2.2.2.1 x.2.2.2.2.2 ((t + 1 : Nat) : Int)) (fun x => .thr (x.1, x.2.1, x.2.2.1, m1, mp, z3, x.2.2.2.1, x.2.2.2.2.1, z5, z6, z7, x.2.2.2.2.2)) := by
  rw [L583_Mo_sectionOf.eq_2, if_neg h]
  simp only [if_pos (show R32 ((t : Int) + 1) by omega)]
  rfl
set_option maxRecDepth 20000 in
theorem cs_end {T : Int} {z : KSo} {C : KCo} {Ct : KCt} {w : KWj} {BR : KBR} {t : Int} {n2 : Nat} (h : T ≤ t) : L16_BR_readAll fu T (n2 + 1) z C Ct w BR t = .ret (z, C, Ct, w, BR, t) := by
  rw [L16_BR_readAll.eq_2, if_pos h]
set_option maxRecDepth 20000 in
theorem cs_fail {a T : Int} {C : KCo} {Ct : KCt} {w : KWj} {BR : KBR} {t : Int} {n2 : Nat} : L16_BR_readAll fu T (n2 + 1) (KSo.mk a L true f) C Ct w BR t = .ret (KSo.mk a L true f, C, Ct, w, BR, t) := by
  rw [L16_BR_readAll.eq_2]
  by_cases h : T ≤ t
  · rw [if_pos h]
  · rw [if_neg h, show f_So_hasFailed (KSo.mk a L true f) = .ret true from rfl, obind_ret, if_pos rfl]
set_option maxRecDepth 20000 in
theorem cs_step {a T : Int} {C : KCo} {Ct : KCt} {w : KWj} {op : Nat → Int} {bc : Int} {t : Nat} {n2 : Nat} (h : ¬ T ≤ t) (ht : t < 30) : L16_BR_readAll fu T (n2 + 1) (KSo.mk a L false f) C Ct w (KBR.mk op bc) t = obind (obind (f_So_narrow fu (KSo.mk a L false f)) (fun x17 => obind (f_BR_readLocals fu x17.1 w t) (fun x19 => obind (L73_BR_readAll fu fu x19.1 C Ct (KBR.mk op 0) true 0) (fun y26 => obind (f_So_widen y26.1 x17.2) (fun x27 => .ret (x27, y26.2.1, y26.2.2.1, KWj.mk (updZ x19.2.starts t C.size) x19.2.localCounts x19.2.locals, y26.2.2.2.1)))))) (fun u => L16_BR_readAll fu T n2 u.1 u.2.1 u.2.2.1 u.2.2.2.1 u.2.2.2.2 ((t + 1 : Nat) : Int)) := by
  rw [L16_BR_readAll.eq_2, if_neg h, show f_So_hasFailed (KSo.mk a L false f) = .ret false from rfl, obind_ret, if_neg (by decide)]
  simp only [obind_as, obind_ret, if_pos (show (0 : Int) ≤ t ∧ (t : Int) < 30 by omega), if_pos (show R32 ((t : Int) + 1) by omega), Int.toNat_natCast]
  rfl
set_option maxRecDepth 20000 in
theorem FnOk.fr {C C' : KCo} {M M' : KMe} {st st' lcs lcs' lo lo' ca ca' ce ce' lcm lcm' : Nat → Int} {ml ml' : Nat → Nat → Int} {a p0 q : Int} {g i e : Nat} {l0 l1 : Int} (h : FnOk f C M st lcs lo ca ce lcm ml a e l0 l1 g) (hC : C.size = i) (hC' : (i : Int) < C'.size) (hp : a ≤ p0) (hq : a ≤ q) (hf : FrC i p0 C M C'.ops C'.extras C'.ends C'.elses C'.labels C'.values C'.labelCount M'.endOf M'.elseOf) (e1 : st' g = st g) (e2 : lcs' g = lcs g) (e3 : ca' g = ca g) (e4 : ce' g = ce g) (e5 : lcm' g = lcm g) (e6 : ∀ k : Nat, (k : Int) < lcm g → lo' (g * 60 + k) = ml' g k ∧ (ml' g k = 127 ∨ ml' g k = 126)) : FnOk f C' M' st' lcs' lo' ca' ce' lcm' ml' q e l0 l1 g := by
  obtain ⟨s, h1, ht, hl, h2, h3, h4, h5, h6, h7, h8⟩ := h
  refine ⟨s, by rw [e1, h1], ?_, by have := hf.2.2.1; omega, ?_, by omega, by rw [e2, e5, h4], by rw [e5]; exact h5, by rw [e5]; exact h6, by rw [e5]; exact e6, by rw [e4]; omega⟩
  · obtain ⟨t1, t2⟩ := ht
    refine ⟨t1, fun j k1 k2 k3 => ?_⟩
    obtain ⟨a1, a2, a3, _, _⟩ := hf.1 j (by omega)
    rw [a1] at k3
    obtain ⟨c1, c2, c3⟩ := t2 j k1 k2 k3
    rw [a3, a2]
    refine ⟨c1, c2, fun j' d1 d2 d3 => ?_⟩
    obtain ⟨b1, b2, b3, _, _⟩ := hf.1 j' (by omega)
    rw [b1] at d3
    rw [b3]
    exact c3 j' d1 d2 d3
  · rw [e3, e4]
    exact h2.fr (by omega) (by omega) hf
set_option maxRecDepth 20000 in
theorem lp_codes (hB : BB f) (hfu : 2100 < fu) (hL : L ≤ 2000) {T : Nat} (hT : T ≤ 30) : ∀ (j t i lc : Nat) (a bc : Int) (ops es en el lab hs ts lt op bl eo xo st lcs lo ca ce lcm : Nat → Int) (vs : Nat → Int64) (ml : Nat → Nat → Int) (n1 n2 : Nat), t + j = T → 0 ≤ a → a ≤ L → (i : Int) ≤ a → (lc : Int) ≤ a → j < n1 → j < n2 → CRel f t (KCo.mk i ops vs es en el lc lab) (KMe.mk eo xo) st lcs lo ca ce lcm ml a →
    Sm a L f (fun t => t.1 = 1) (fun _ => True) (L583_Mo_sectionOf fu (KMt.mk f n) m1 mp z3 z5 z6 z7 n1 r (KMc.mk a L) bl (KMj.mk T ca ce lcm) ml (KMe.mk eo xo) t) (L16_BR_readAll fu T n2 (KSo.mk a L false f) (KCo.mk i ops vs es en el lc lab) (KCt.mk hs ts lt) (KWj.mk st lcs lo) (KBR.mk op bc) t)
      (fun q x y => ∃ (bl' : KMk) (ca' ce' lcm' st' lcs' lo' : Nat → Int) (ml' : Nat → Nat → Int) (M' : KMe) (C' : KCo) (Ct' : KCt) (BR' : KBR), x = (r, KMc.mk q L, bl', KMj.mk T ca' ce' lcm', ml', M', (T : Int)) ∧ y = (C', Ct', KWj.mk st' lcs' lo', BR', (T : Int)) ∧ 0 ≤ C'.size ∧ C'.size ≤ q ∧ 0 ≤ C'.labelCount ∧ C'.labelCount ≤ q ∧ CRel f T C' M' st' lcs' lo' ca' ce' lcm' ml' q) := by
  intro j
  induction j with
  | zero =>
    intro t i lc a bc ops es en el lab hs ts lt op bl eo xo st lcs lo ca ce lcm vs ml n1 n2 hj h0 h1 hi hlc hn1 hn2 hR
    obtain ⟨n1, rfl⟩ : ∃ q, n1 = q + 1 := ⟨n1 - 1, by omega⟩
    obtain ⟨n2, rfl⟩ : ∃ q, n2 = q + 1 := ⟨n2 - 1, by omega⟩
    obtain rfl : t = T := by omega
    rw [mcs_end (Int.le_refl _), cs_end (Int.le_refl _)]
    exact Sm.ret h1 ⟨bl, ca, ce, lcm, st, lcs, lo, ml, KMe.mk eo xo, KCo.mk i ops vs es en el lc lab, KCt.mk hs ts lt, KBR.mk op bc, rfl, rfl, Int.natCast_nonneg _, hi, Int.natCast_nonneg _, hlc, hR⟩
  | succ j ih =>
    intro t i lc a bc ops es en el lab hs ts lt op bl eo xo st lcs lo ca ce lcm vs ml n1 n2 hj h0 h1 hi hlc hn1 hn2 hR
    obtain ⟨n1, rfl⟩ : ∃ q, n1 = q + 1 := ⟨n1 - 1, by omega⟩
    obtain ⟨n2, rfl⟩ : ∃ q, n2 = q + 1 := ⟨n2 - 1, by omega⟩
    rw [mcs_step (show ¬ ((T : Nat) : Int) ≤ t by omega) (by omega), cs_step (by omega) (by omega)]
    obtain ⟨ee, l0, l1, hF, hO⟩ := hR
    refine Sm.bind (fn_body (S := fun i p => i < t ∧ (p : Int) < lcm i) hB hfu h0 h1 hL (by omega) hi hlc (fun i p hp => ?_)) ?_ (fun t ht => ⟨_, rfl, ht⟩) ?_
    · obtain ⟨s, k1, _, _, k2, k3, k4, k5, k6, k7, k8⟩ := hF i hp.1
      exact ⟨by omega, k7 p hp.2⟩
    · rintro q x y h2 h3 ⟨p0, bl', ⟨eo', xo'⟩, ⟨S', ops', vs', es', en', el', lc0, lab'⟩, ⟨hs', ts', lt'⟩, ⟨op', bc'⟩, e, lc', c', lo', lcm', ml', rfl, rfl, g1, g2, g3, g4, g5, g6, gT, g7, g8, g9, g10, g11⟩
      dsimp only
      have g1 : S' = ((e + 1 : Nat) : Int) := g1
      have g3 : lc0 = (lc' : Int) := g3
      subst g1 g3
      refine (ih (t + 1) (e + 1) lc' q bc' ops' es' en' el' lab' hs' ts' lt' op' bl' eo' xo' (updZ st t i) (updZ lcs t c') lo' (updZ ca t p0) (updZ ce t q) lcm' vs' ml' n1 n2 (by omega) (by omega) h3 (by omega) g4 (by omega) (by omega) ?_)
      refine ⟨updN ee t e, updZ l0 t lc, updZ l1 t lc', fun g hg => ?_, fun g g' h1 h2 => ?_⟩
      rotate_left
      · have hg' : g < t := by omega
        rw [updN_n (by omega), updZ_n (show g ≠ t by omega)]
        obtain ⟨s9, q1, q2, q3, q4, q5, _⟩ := hF g hg'
        by_cases hgt : g' = t
        · subst hgt
          rw [updZ_s, updZ_s]
          exact ⟨q5, q3⟩
        · rw [updZ_n hgt, updZ_n hgt]
          exact hO g g' h1 (by omega)
      by_cases hgt : g = t
      · subst hgt
        rw [updN_s, updZ_s, updZ_s]
        refine ⟨i, updZ_s _ _ _, gT, Int.le_refl _, ?_, by show (e : Int) < ((e + 1 : Nat) : Int); omega, by rw [updZ_s, g9], by rw [g9]; omega, by rw [g9]; omega, fun k hk => ?_, by rw [updZ_s]; omega⟩
        · rw [updZ_s, updZ_s]; exact g5
        · rw [g9] at hk
          obtain ⟨_, k2, k3⟩ := g11 g k (Or.inr ⟨rfl, by omega⟩)
          exact ⟨k2, k3⟩
      · have hb := g5.1
        rw [updN_n hgt, updZ_n hgt, updZ_n hgt]
        refine (hF g (by omega)).fr (i := i) rfl (by show (i : Int) < ((e + 1 : Nat) : Int); omega) g7 (by omega) g6 (updZ_n hgt) (updZ_n hgt) (updZ_n hgt) (updZ_n hgt) (g10 g hgt) (fun k hk => ?_)
        obtain ⟨_, k2, k3⟩ := g11 g k (Or.inl ⟨⟨by omega, hk⟩, hgt⟩)
        exact ⟨k2, k3⟩
    · rintro q ⟨C', Ct', w', BR'⟩ h2 h3 _
      dsimp only
      obtain ⟨n2, rfl⟩ : ∃ q, n2 = q + 1 := ⟨n2 - 1, by omega⟩
      rw [cs_fail]
      exact Dd.ret trivial
set_option maxRecDepth 20000 in
theorem cd_sec (hB : BB f) (hfu : 2100 < fu) {a : Int} (h0 : 0 ≤ a) (h1 : a ≤ L) (hL : L ≤ 2000) {zk : KMk} {zj : KMj} {zl : KMl} {ze : KMe} {ops es en el lab hs ts lt op : Nat → Int} {bc : Int} {vs : Nat → Int64} {w : KWj} : Sm a L f (fun t => t.1 = 1) (fun _ => True) (f_Mo_sectionOf fu r (KMc.mk a L) zk (KMt.mk f n) m1 mp z3 zj zl z5 z6 z7 ze 10) (obind (f_So_unsigned fu (KSo.mk a L false f) 30) (fun x => obind (f_BR_readAll fu x.1 (KCo.mk 0 ops vs es en el 0 lab) (KCt.mk hs ts lt) w (KBR.mk op bc) x.2.toInt32.toInt) (fun y => .ret (y.1, y.2.1, y.2.2.1, y.2.2.2.1, y.2.2.2.2, x.2.toInt32.toInt))))
    (fun q x y => ∃ (T : Nat) (bl' : KMk) (ca' ce' lcm' st' lcs' lo' : Nat → Int) (ml' : Nat → Nat → Int) (M' : KMe) (C' : KCo) (Ct' : KCt) (BR' : KBR), T ≤ 30 ∧ x = (r, KMc.mk q L, bl', m1, mp, z3, KMj.mk T ca' ce' lcm', ml', z5, z6, z7, M') ∧ y = (C', Ct', KWj.mk st' lcs' lo', BR', (T : Int)) ∧ 0 ≤ C'.size ∧ C'.size ≤ q ∧ 0 ≤ C'.labelCount ∧ C'.labelCount ≤ q ∧ CRel f T C' M' st' lcs' lo' ca' ce' lcm' ml' q) := by
  obtain ⟨Cc, ca, ce, lcm⟩ := zj
  obtain ⟨st, lcs, lo⟩ := w
  obtain ⟨eo, xo⟩ := ze
  have e : f_Mo_sectionOf fu r (KMc.mk a L) zk (KMt.mk f n) m1 mp z3 (Cc, ca, ce, lcm) zl z5 z6 z7 (eo, xo) 10 = obind2 (f_Mo_few2 fu r (KMc.mk a L) (KMt.mk f n) 30) (fun x => obind2 (L583_Mo_sectionOf fu (KMt.mk f n) m1 mp z3 z5 z6 z7 fu x.1 x.2.1 zk (KMj.mk x.2.2 ca ce lcm) zl (KMe.mk eo xo) 0) (fun y => .ret (y.1, y.2.1, y.2.2.1, m1, mp, z3, y.2.2.2.1, y.2.2.2.2.1, z5, z6, z7, y.2.2.2.2.2.1)) (fun t9 => .thr t9)) (fun x => .thr (x.1, x.2, zk, m1, mp, z3, (Cc, ca, ce, lcm), zl, z5, z6, z7, (eo, xo))) := by
    unfold f_Mo_sectionOf
    simp only [jp]
    rw [if_neg (by decide), if_neg (by decide), if_neg (by decide), if_neg (by decide), if_neg (by decide), if_pos trivial]
  rw [e]
  refine PrR.bind (pr_few (by decide) (by omega) h0 h1 hL) (by decide) ?_ (fun c => ⟨_, rfl, rfl⟩) ?_
  · rintro q N v h2 h3 ⟨k1, k2, k3, k4⟩
    have k4 : N ≤ 30 := k4
    obtain ⟨N, rfl⟩ := Int.eq_ofNat_of_zero_le k3
    dsimp only
    rw [k2]
    unfold f_BR_readAll
    simp only [obind_as, obind_ret]
    refine Sm.bind (lp_codes hB hfu hL (T := N) (by omega) N 0 0 0 q bc ops es en el lab hs ts lt op zk eo xo st lcs lo ca ce lcm vs zl fu fu (by omega) (by omega) h3 (by omega) (by omega) (by omega) (by omega) CRel.nil) ?_ (fun t ht => ⟨t, rfl, ht⟩) ?_
    · rintro q2 x y h4 h5 ⟨bl', ca', ce', lcm', st', lcs', lo', ml', M', C', Ct', BR', rfl, rfl, g1, g2, g3, g4, g5⟩
      dsimp only
      exact Sm.ret h5 ⟨N, bl', ca', ce', lcm', st', lcs', lo', ml', M', C', Ct', BR', by omega, rfl, rfl, g1, g2, g3, g4, g5⟩
    · rintro q2 ⟨C', Ct', w', BR', t'⟩ h4 h5 _
      exact Dd.ret trivial
  · rintro q v h2 h3 rfl
    dsimp only
    unfold f_BR_readAll
    obtain ⟨m, rfl⟩ : ∃ q, fu = q + 1 := ⟨fu - 1, by omega⟩
    rw [cs_fail, obind_ret, obind_ret]
    exact Dd.ret trivial
set_option maxRecDepth 20000 in
theorem cd_secD (hfu : 20 < fu) {a : Int} {C : KCo} {Ct : KCt} {w : KWj} {BR : KBR} : Dd a L f (fun y => y = (C, Ct, w, BR, (0 : Int))) (obind (f_So_unsigned fu (KSo.mk a L true f) 30) (fun x => obind (f_BR_readAll fu x.1 C Ct w BR x.2.toInt32.toInt) (fun y => .ret (y.1, y.2.1, y.2.2.1, y.2.2.2.1, y.2.2.2.2, x.2.toInt32.toInt)))) := by
  rw [so_unsD (by omega), obind_ret]
  dsimp only
  unfold f_BR_readAll
  obtain ⟨m, rfl⟩ : ∃ q, fu = q + 1 := ⟨fu - 1, by omega⟩
  rw [cs_fail, obind_ret, obind_ret]
  exact Dd.ret rfl
end CDS

/-! SECTIONS, one after the other -/
abbrev CSt : Type := KCo × KCt × KEx × KW1 × KW3 × KWj × KW5 × KW6 × KBR × KRd
abbrev MSt : Type := KMk × KM1 × KMp × KM3 × KMj × KMl × KM5 × KM6 × KM7 × KMe
def R1 (w : KW1) (m : KM1) (mp : KMp) : Prop := ∃ T : Nat, T ≤ 20 ∧ w.typeCount = T ∧ m.types = T ∧ TRel T w.parameterCounts w.results m.parameterCount m.results w.parameters mp
def R3 (w : KW3) (m : KM3) : Prop := ∃ T : Nat, T ≤ 30 ∧ w.functionCount = T ∧ m.functions = T ∧ FRel T w.functionTypes m.typeOf
def R5 (w : KW5) (m : KM5) : Prop := (w = KW5.mk false 0 0 ∧ m.memories = 0) ∨ (∃ (x y : Int64) (h : Bool), w = KW5.mk true x y ∧ m = KM5.mk 1 x y h ∧ uL x < 2 ^ 32 ∧ uL y < 2 ^ 32)
def R6 (w : KW6) (m : KM6) : Prop := ∃ T : Nat, T ≤ 20 ∧ w.globalCount = T ∧ m.globals = T ∧ GRel T w m
def R7 (f : Nat → Int32) (w : KEx) (m : KM7) : Prop := ∃ T : Nat, T ≤ 40 ∧ w.size = T ∧ m.exports = T ∧ ERel f T w m
def R10 (f : Nat → Int32) (a : Int) (C : KCo) (M : KMe) (w : KWj) (m : KMj) (ml : KMl) (rd : KRd) : Prop := ∃ T : Nat, T ≤ 30 ∧ rd = (T : Int) ∧ m.codes = T ∧ 0 ≤ C.size ∧ C.size ≤ a ∧ 0 ≤ C.labelCount ∧ C.labelCount ≤ a ∧ CRel f T C M w.starts w.localCounts w.locals m.codeAt m.codeEnd m.localCount ml a
/-- what class and reference have read, the last section being 'last', up to a -/
def RdR (f : Nat → Int32) (last a : Int) (c : CSt) (m : MSt) : Prop :=
  R1 c.2.2.2.1 m.2.1 m.2.2.1 ∧ R3 c.2.2.2.2.1 m.2.2.2.1 ∧ R5 c.2.2.2.2.2.2.1 m.2.2.2.2.2.2.1 ∧ R6 c.2.2.2.2.2.2.2.1 m.2.2.2.2.2.2.2.1 ∧ R7 f c.2.2.1 m.2.2.2.2.2.2.2.2.1 ∧ R10 f a c.1 m.2.2.2.2.2.2.2.2.2 c.2.2.2.2.2.1 m.2.2.2.2.1 m.2.2.2.2.2.1 c.2.2.2.2.2.2.2.2.2 ∧ (last < 5 → c.2.2.2.2.2.2.1 = KW5.mk false 0 0) ∧ (last < 10 → c.1.size = 0 ∧ c.1.labelCount = 0)
set_option maxRecDepth 20000 in
theorem R10.up {f : Nat → Int32} {a b : Int} {C : KCo} {M : KMe} {w : KWj} {m : KMj} {ml : KMl} {rd : KRd} (h : R10 f a C M w m ml rd) (hab : a ≤ b) : R10 f b C M w m ml rd := by
  obtain ⟨T, h1, h2, h3, h4, h5, h6, h7, h8⟩ := h
  obtain ⟨ee, l0, l1, hF, hO⟩ := h8
  refine ⟨T, h1, h2, h3, h4, by omega, h6, by omega, ee, l0, l1, fun g hg => ?_, hO⟩
  obtain ⟨s, k1, kt, kl, k2, k3, k4, k5, k6, k7, k8⟩ := hF g hg
  exact ⟨s, k1, kt, kl, k2, k3, k4, k5, k6, k7, by omega⟩
set_option maxRecDepth 20000 in
theorem RdR.up {f : Nat → Int32} {last last' a b : Int} {c : CSt} {m : MSt} (h : RdR f last a c m) (hab : a ≤ b) (hl : last ≤ last') : RdR f last' b c m := by
  obtain ⟨h1, h2, h3, h4, h5, h6, h7, h8⟩ := h
  exact ⟨h1, h2, h3, h4, h5, h6.up hab, fun q => h7 (by omega), fun q => h8 (by omega)⟩
/-- the class's section behind its size -/
noncomputable def secB (fu : Nat) (z : KSo) (c : CSt) (id : Int) : Out Empty (KSo × CSt) :=
  if id = 0 then obind (f_Rd_readCustom fu z) (fun x => .ret (x, c))
  else if id = 1 then obind (f_Rd_readTypes fu z c.2.2.2.1) (fun x => .ret (x.1, c.1, c.2.1, c.2.2.1, x.2, c.2.2.2.2))
  else if id = 3 then obind (f_Rd_readFunctions fu z c.2.2.2.2.1) (fun x => .ret (x.1, c.1, c.2.1, c.2.2.1, c.2.2.2.1, x.2, c.2.2.2.2.2))
  else if id = 5 then obind (f_Rd_readMemories fu z c.2.2.2.2.2.2.1) (fun x => .ret (x.1, c.1, c.2.1, c.2.2.1, c.2.2.2.1, c.2.2.2.2.1, c.2.2.2.2.2.1, x.2, c.2.2.2.2.2.2.2))
  else if id = 6 then obind (f_Rd_readGlobals fu z c.2.2.2.2.2.2.2.1) (fun x => .ret (x.1, c.1, c.2.1, c.2.2.1, c.2.2.2.1, c.2.2.2.2.1, c.2.2.2.2.2.1, c.2.2.2.2.2.2.1, x.2, c.2.2.2.2.2.2.2.2))
  else if id = 7 then obind (f_Rd_readExports fu z c.2.2.1) (fun x => .ret (x.1, c.1, c.2.1, x.2, c.2.2.2))
  else if id = 10 then obind (obind (f_So_unsigned fu z 30) (fun x => obind (f_BR_readAll fu x.1 c.1 c.2.1 c.2.2.2.2.2.1 c.2.2.2.2.2.2.2.2.1 x.2.toInt32.toInt) (fun y => .ret (y.1, y.2.1, y.2.2.1, y.2.2.2.1, y.2.2.2.2, x.2.toInt32.toInt)))) (fun y => .ret (y.1, y.2.1, y.2.2.1, c.2.2.1, c.2.2.2.1, c.2.2.2.2.1, y.2.2.2.1, c.2.2.2.2.2.2.1, c.2.2.2.2.2.2.2.1, y.2.2.2.2.1, y.2.2.2.2.2))
  else obind (f_So_fail z) (fun x => .ret (x, c))
section SEC
variable {fu : Nat} {f : Nat → Int32} {a L n r : Int}
set_option maxRecDepth 20000 in
theorem sec_eq {z : KSo} {c : CSt} {id : Int} : f_Rd_readSection fu z c.1 c.2.1 c.2.2.1 c.2.2.2.1 c.2.2.2.2.1 c.2.2.2.2.2.1 c.2.2.2.2.2.2.1 c.2.2.2.2.2.2.2.1 c.2.2.2.2.2.2.2.2.1 c.2.2.2.2.2.2.2.2.2 id = obind (f_So_narrow fu z) (fun x => obind (secB fu x.1 c id) (fun y => obind (f_So_widen y.1 x.2) (fun w => .ret (w, y.2)))) := by
  unfold f_Rd_readSection secB
  simp only [jp]
  congr 1; funext x
  by_cases h0 : id = 0
  · simp only [if_pos h0, obind_as, obind_ret]
  by_cases h1 : id = 1
  · simp only [if_neg h0, if_pos h1, obind_as, obind_ret]
  by_cases h3 : id = 3
  · simp only [if_neg h0, if_neg h1, if_pos h3, obind_as, obind_ret]
  by_cases h5 : id = 5
  · simp only [if_neg h0, if_neg h1, if_neg h3, if_pos h5, obind_as, obind_ret]
  by_cases h6 : id = 6
  · simp only [if_neg h0, if_neg h1, if_neg h3, if_neg h5, if_pos h6, obind_as, obind_ret]
  by_cases h7 : id = 7
  · simp only [if_neg h0, if_neg h1, if_neg h3, if_neg h5, if_neg h6, if_pos h7, obind_as, obind_ret]
  by_cases h10 : id = 10
  · simp only [if_neg h0, if_neg h1, if_neg h3, if_neg h5, if_neg h6, if_neg h7, if_pos h10, obind_as, obind_ret]
  · simp only [if_neg h0, if_neg h1, if_neg h3, if_neg h5, if_neg h6, if_neg h7, if_neg h10, obind_as, obind_ret]
set_option maxRecDepth 20000 in
/-- a class that has failed goes through the section and stays failed -/
theorem secB_D (hfu : 2100 < fu) (h0 : 0 ≤ a) (h1 : a ≤ L) (hL : L ≤ 2000) {c : CSt} {id : Int} : ∃ q y, secB fu (KSo.mk a L true f) c id = .ret (KSo.mk q L true f, y) ∧ a ≤ q ∧ q ≤ L := by
  unfold secB
  by_cases c0 : id = 0
  · rw [if_pos c0, cus_D (by omega) h0 h1 hL, obind_ret]; exact ⟨L, _, rfl, h1, Int.le_refl _⟩
  rw [if_neg c0]
  by_cases c1 : id = 1
  · obtain ⟨w, e⟩ := ty_secD (fu := fu) (a := a) (L := L) (f := f) (by omega) c.2.2.2.1
    rw [if_pos c1, e, obind_ret]; exact ⟨a, _, rfl, Int.le_refl _, h1⟩
  rw [if_neg c1]
  by_cases c3 : id = 3
  · obtain ⟨w, e⟩ := fn_secD (fu := fu) (a := a) (L := L) (f := f) (by omega) c.2.2.2.2.1
    rw [if_pos c3, e, obind_ret]; exact ⟨a, _, rfl, Int.le_refl _, h1⟩
  rw [if_neg c3]
  by_cases c5 : id = 5
  · rw [if_pos c5, mem_secD (by omega), obind_ret]; exact ⟨a, _, rfl, Int.le_refl _, h1⟩
  rw [if_neg c5]
  by_cases c6 : id = 6
  · obtain ⟨w, e, _⟩ := gl_secD (fu := fu) (a := a) (L := L) (f := f) (by omega) c.2.2.2.2.2.2.2.1
    rw [if_pos c6, e, obind_ret]; exact ⟨a, _, rfl, Int.le_refl _, h1⟩
  rw [if_neg c6]
  by_cases c7 : id = 7
  · obtain ⟨w, e, _⟩ := ex_secD (fu := fu) (a := a) (L := L) (f := f) (by omega) c.2.2.1
    rw [if_pos c7, e, obind_ret]; exact ⟨a, _, rfl, Int.le_refl _, h1⟩
  rw [if_neg c7]
  by_cases c10 : id = 10
  · obtain ⟨w, e, _⟩ := cd_secD (fu := fu) (a := a) (L := L) (f := f) (by omega) (C := c.1) (Ct := c.2.1) (w := c.2.2.2.2.2.1) (BR := c.2.2.2.2.2.2.2.2.1)
    rw [if_pos c10, e, obind_ret]; exact ⟨a, _, rfl, Int.le_refl _, h1⟩
  · rw [if_neg c10, so_failM, obind_ret]; exact ⟨a, _, rfl, Int.le_refl _, h1⟩
set_option maxRecDepth 20000 in
theorem sec_body (hB : BB f) (hfu : 2100 < fu) (h0 : 0 ≤ a) (h1 : a ≤ L) (hL : L ≤ 2000) {c : CSt} {m : MSt} {id last : Int} (hid : id ≠ 0) (hl : last < id) (hR : RdR f last a c m) :
    Sm a L f (fun t => t.1 = 1) (fun _ => True) (f_Mo_sectionOf fu r (KMc.mk a L) m.1 (KMt.mk f n) m.2.1 m.2.2.1 m.2.2.2.1 m.2.2.2.2.1 m.2.2.2.2.2.1 m.2.2.2.2.2.2.1 m.2.2.2.2.2.2.2.1 m.2.2.2.2.2.2.2.2.1 m.2.2.2.2.2.2.2.2.2 id) (secB fu (KSo.mk a L false f) c id)
      (fun q x y => ∃ m' : MSt, x = (r, KMc.mk q L, m') ∧ RdR f id q y m') := by
  obtain ⟨C, Ct, Ex, W1, W3, Wj, W5, W6, BR, Rd⟩ := c
  obtain ⟨zk, m1, mp, z3, zj, zl, z5, z6, z7, ze⟩ := m
  obtain ⟨r1, r3, r5, r6, r7, r10, s5, s10⟩ := hR
  unfold secB
  dsimp only at *
  rw [if_neg hid]
  by_cases c1 : id = 1
  · subst c1
    rw [if_pos rfl]
    rcases ty_sec (fu := fu) (f := f) (r := r) (n := n) (zk := zk) (m1 := m1) (mp := mp) (z3 := z3) (zj := zj) (zl := zl) (z5 := z5) (z6 := z6) (z7 := z7) (ze := ze) (by omega) h0 h1 hL W1 with ⟨q, T, pc, ps, rs, mc, mr, mp', e1, e2, k1, k2, k3, k4⟩ | ⟨q, w', tt, e1, e2, e3, k1, k2⟩
    · rw [e1, e2, obind_ret]
      exact Or.inl ⟨q, _, _, rfl, rfl, k1, k2, (zk, KM1.mk T mc mr, mp', z3, zj, zl, z5, z6, z7, ze), rfl, ⟨T, k3, rfl, rfl, k4⟩, r3, r5, r6, r7, r10.up k1, fun q => s5 (by omega), fun q => s10 (by omega)⟩
    · rw [e1, e3, obind_ret]
      exact Or.inr ⟨tt, q, _, rfl, e2, rfl, k1, k2, trivial⟩
  rw [if_neg c1]
  by_cases c3 : id = 3
  · subst c3
    rw [if_pos rfl]
    rcases fn_sec (fu := fu) (f := f) (r := r) (n := n) (zk := zk) (m1 := m1) (mp := mp) (z3 := z3) (zj := zj) (zl := zl) (z5 := z5) (z6 := z6) (z7 := z7) (ze := ze) (by omega) h0 h1 hL W3 with ⟨q, T, ft, mt, e1, e2, k1, k2, k3, k4⟩ | ⟨q, T, ft, tt, e1, e2, e3, k1, k2, _⟩
    · rw [e1, e2, obind_ret]
      exact Or.inl ⟨q, _, _, rfl, rfl, k1, k2, (zk, m1, mp, KM3.mk T mt, zj, zl, z5, z6, z7, ze), rfl, r1, ⟨T, k3, rfl, rfl, k4⟩, r5, r6, r7, r10.up k1, fun q => s5 (by omega), fun q => s10 (by omega)⟩
    · rw [e1, e3, obind_ret]
      exact Or.inr ⟨tt, q, _, rfl, e2, rfl, k1, k2, trivial⟩
  rw [if_neg c3]
  by_cases c5 : id = 5
  · subst c5
    rw [if_pos rfl]
    rcases mem_sec (fu := fu) (f := f) (r := r) (n := n) (zk := zk) (m1 := m1) (mp := mp) (z3 := z3) (zj := zj) (zl := zl) (z5 := z5) (z6 := z6) (z7 := z7) (ze := ze) (by omega) h0 h1 hL W5 with ⟨q, w', m', e1, e2, k1, k2, k3⟩ | ⟨q, w', tt, e1, e2, e3, k1, k2⟩
    · rw [e1, e2, obind_ret]
      refine Or.inl ⟨q, _, _, rfl, rfl, k1, k2, (zk, m1, mp, z3, zj, zl, m', z6, z7, ze), rfl, r1, r3, ?_, r6, r7, r10.up k1, fun q => absurd q (by decide), fun q => s10 (by omega)⟩
      rcases k3 with ⟨k3, k4⟩ | k3
      · left
        rw [s5 hl] at k3
        exact ⟨k3, k4⟩
      · exact Or.inr k3
    · rw [e1, e3, obind_ret]
      exact Or.inr ⟨tt, q, _, rfl, e2, rfl, k1, k2, trivial⟩
  rw [if_neg c5]
  by_cases c6 : id = 6
  · subst c6
    rw [if_pos rfl]
    rcases gl_sec (fu := fu) (f := f) (r := r) (n := n) (zk := zk) (m1 := m1) (mp := mp) (z3 := z3) (zj := zj) (zl := zl) (z5 := z5) (z6 := z6) (z7 := z7) (ze := ze) (by omega) h0 h1 hL W6 with ⟨q, x, y, e1, e2, k1, k2, T, m, rfl, k3, k4, k5, k6⟩ | ⟨tt, q, y, e1, e2, e3, k1, k2, _⟩
    · rw [e1, e2, obind_ret]
      exact Or.inl ⟨q, _, _, rfl, rfl, k1, k2, (zk, m1, mp, z3, zj, zl, z5, m, z7, ze), rfl, r1, r3, r5, ⟨T, k3, k4, k5, k6⟩, r7, r10.up k1, fun q => absurd q (by decide), fun q => s10 (by omega)⟩
    · rw [e1, e3, obind_ret]
      exact Or.inr ⟨tt, q, _, rfl, e2, rfl, k1, k2, trivial⟩
  rw [if_neg c6]
  by_cases c7 : id = 7
  · subst c7
    rw [if_pos rfl]
    rcases ex_sec (fu := fu) (f := f) (r := r) (n := n) (zk := zk) (m1 := m1) (mp := mp) (z3 := z3) (zj := zj) (zl := zl) (z5 := z5) (z6 := z6) (z7 := z7) (ze := ze) hB (by omega) h0 h1 hL Ex with ⟨q, x, y, e1, e2, k1, k2, T, m, rfl, k3, k4, k5, k6⟩ | ⟨tt, q, y, e1, e2, e3, k1, k2, _⟩
    · rw [e1, e2, obind_ret]
      exact Or.inl ⟨q, _, _, rfl, rfl, k1, k2, (zk, m1, mp, z3, zj, zl, z5, z6, m, ze), rfl, r1, r3, r5, r6, ⟨T, k3, k4, k5, k6⟩, r10.up k1, fun q => absurd q (by decide), fun q => s10 (by omega)⟩
    · rw [e1, e3, obind_ret]
      exact Or.inr ⟨tt, q, _, rfl, e2, rfl, k1, k2, trivial⟩
  rw [if_neg c7]
  by_cases c10 : id = 10
  · subst c10
    rw [if_pos rfl]
    obtain ⟨S, ops, vs, es, en, el, lc, lab⟩ := C
    obtain ⟨hs, ts, lt⟩ := Ct
    obtain ⟨op, bc⟩ := BR
    have e0 : S = 0 := (s10 hl).1
    have e00 : lc = 0 := (s10 hl).2
    subst e0 e00
    rcases cd_sec (fu := fu) (f := f) (r := r) (n := n) (zk := zk) (m1 := m1) (mp := mp) (z3 := z3) (zj := zj) (zl := zl) (z5 := z5) (z6 := z6) (z7 := z7) (ze := ze) (ops := ops) (es := es) (en := en) (el := el) (lab := lab) (hs := hs) (ts := ts) (lt := lt) (op := op) (bc := bc) (vs := vs) (w := Wj) hB hfu h0 h1 hL with ⟨q, x, y, e1, e2, k1, k2, T, bl', ca', ce', lcm', st', lcs', lo', ml', M', C', Ct', BR', k3, rfl, rfl, k4, k5, k6, k7, k8⟩ | ⟨tt, q, y, e1, e2, e3, k1, k2, _⟩
    · rw [e1, e2, obind_ret]
      exact Or.inl ⟨q, _, _, rfl, rfl, k1, k2, (bl', m1, mp, z3, KMj.mk T ca' ce' lcm', ml', z5, z6, z7, M'), rfl, r1, r3, r5, r6, r7, ⟨T, k3, rfl, rfl, k4, k5, k6, k7, k8⟩, fun q => absurd q (by decide), fun q => absurd q (by decide)⟩
    · rw [e1, e3, obind_ret]
      exact Or.inr ⟨tt, q, _, rfl, e2, rfl, k1, k2, trivial⟩
  · rw [if_neg c10, so_failM, obind_ret]
    have e : f_Mo_sectionOf fu r (KMc.mk a L) zk (KMt.mk f n) m1 mp z3 zj zl z5 z6 z7 ze id = .thr (1, KMc.mk a L, zk, m1, mp, z3, zj, zl, z5, z6, z7, ze) := by
      unfold f_Mo_sectionOf
      simp only [jp]
      rw [if_neg c1, if_neg c3, if_neg c5, if_neg c6, if_neg c7, if_neg c10]
      rfl
    rw [e]
    exact Or.inr ⟨_, a, _, rfl, rfl, rfl, Int.le_refl _, h1, trivial⟩
end SEC
