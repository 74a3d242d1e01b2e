/-! THE WHOLE TAPE: its head, and all of it -/
section HED
variable {fu : Nat} {f : Nat → Int32} {L r : Int} {z : KMz} {zk : KMk} {m1 : KM1} {mp : KMp} {z3 : KM3} {zj : KMj} {zl : KMl} {z5 : KM5} {z6 : KM6} {z7 : KM7} {ze : KMe}
set_option maxRecDepth 20000 in
theorem hd_end {n2 : Nat} {x : KSo} {k : Int} (h : 8 ≤ k) : L29_Rd_reads fu (n2 + 1) x k = .ret (x, k) := by
  rw [L29_Rd_reads.eq_2, if_pos h]
set_option maxRecDepth 20000 in
theorem hd_step {n2 k : Nat} {x : KSo} (h : k < 8) : L29_Rd_reads fu (n2 + 1) x k = obind (f_So_require x ((xHead k).toInt)) (fun y => L29_Rd_reads fu n2 y ((k + 1 : Nat) : Int)) := by
  rw [L29_Rd_reads.eq_2, if_neg (by omega), if_pos (show (0 : Int) ≤ k ∧ (k : Int) < 8 by omega)]
  simp only [if_pos (show R32 ((k : Int) + 1) by omega), Int.toNat_natCast]
  rfl
set_option maxRecDepth 20000 in
theorem hd_dead {a : Int} : ∀ (j k n2 : Nat), k + j = 8 → j < n2 → Dd a L f (fun _ => True) (L29_Rd_reads fu n2 (KSo.mk a L true f) k) := by
  intro j
  induction j with
  | zero =>
    intro k n2 hk hn
    obtain ⟨n2, rfl⟩ : ∃ q, n2 = q + 1 := ⟨n2 - 1, by omega⟩
    obtain rfl : k = 8 := by omega
    rw [hd_end (by decide)]; exact Dd.ret trivial
  | succ j ih =>
    intro k n2 hk hn
    obtain ⟨n2, rfl⟩ : ∃ q, n2 = q + 1 := ⟨n2 - 1, by omega⟩
    rw [hd_step (by omega)]
    exact Dd.req (ih (k + 1) n2 (by omega) (by omega))
set_option maxRecDepth 20000 in
theorem mhd_end {n1 : Nat} {t : KMt} {c : KMc} {k : Int} (h : 8 ≤ k) : L66_Mo_readModule fu z zk t m1 mp z3 zj zl z5 z6 z7 ze (n1 + 1) r c k = .ret (r, c, k) := by
  rw [L66_Mo_readModule.eq_2, if_pos h]
set_option maxRecDepth 20000 in
theorem mhd_step {n1 k : Nat} {t : KMt} {c : KMc} (h : k < 8) : ∃ E : KRf × KMc → KRf × KMc × KMk × KM1 × KMp × KM3 × KMj × KMl × KM5 × KM6 × KM7 × KMe, (∀ x, (E x).1 = x.1) ∧ L66_Mo_readModule fu z zk t m1 mp z3 zj zl z5 z6 z7 ze (n1 + 1) r c k = obind2 (f_Mo_one r c t) (fun x => if x.2.2 = z.magic k then L66_Mo_readModule fu z zk t m1 mp z3 zj zl z5 z6 z7 ze n1 x.1 x.2.1 ((k + 1 : Nat) : Int) else .thr (E (1, x.2.1))) (fun x => .thr (E x)) := by
  refine ⟨fun x => (x.1, x.2, zk, KM1.mk 0 m1.parameterCount m1.results, mp, KM3.mk 0 z3.typeOf, KMj.mk 0 zj.codeAt zj.codeEnd zj.localCount, zl, KM5.mk 0 z5.least z5.most z5.hasMost, KM6.mk 0 z6.globalTypes z6.globalKinds z6.changes z6.starts, KM7.mk 0 z7.exportKinds z7.exportOf z7.nameAt z7.nameLength, ze), fun _ => rfl, ?_⟩
  rw [L66_Mo_readModule.eq_2, if_neg (by omega)]
  simp only [jp_ite]
  simp only [jp, rd_ite, if_pos (show (0 : Int) ≤ k ∧ (k : Int) < 8 by omega), if_pos (show R32 ((k : Int) + 1) by omega), Int.toNat_natCast]
  rfl
set_option maxRecDepth 20000 in
theorem lp_head (hL : L ≤ 2000) {n : Int} (hz : ∀ k : Nat, k < 8 → z.magic k = (xHead k).toInt) : ∀ (j k : Nat) (a : Int) (n1 n2 : Nat), k + j = 8 → 0 ≤ a → a ≤ L → j < n1 → j < n2 → Sm a L f (fun t => t.1 = 1) (fun _ => True) (L66_Mo_readModule fu z zk (KMt.mk f n) m1 mp z3 zj zl z5 z6 z7 ze n1 r (KMc.mk a L) k) (L29_Rd_reads fu n2 (KSo.mk a L false f) k) (fun q x y => x = (r, KMc.mk q L, (8 : Int)) ∧ y = (8 : Int)) := by
  intro j
  induction j with
  | zero =>
    intro k a n1 n2 hk h0 h1 hn1 hn2
    obtain ⟨n1, rfl⟩ : ∃ q, n1 = q + 1 := ⟨n1 - 1, by omega⟩
    obtain ⟨n2, rfl⟩ : ∃ q, n2 = q + 1 := ⟨n2 - 1, by omega⟩
    obtain rfl : k = 8 := by omega
    rw [hd_end (by decide), mhd_end (by decide)]
    exact Sm.ret h1 ⟨rfl, rfl⟩
  | succ j ih =>
    intro k a n1 n2 hk h0 h1 hn1 hn2
    obtain ⟨n1, rfl⟩ : ∃ q, n1 = q + 1 := ⟨n1 - 1, by omega⟩
    obtain ⟨n2, rfl⟩ : ∃ q, n2 = q + 1 := ⟨n2 - 1, by omega⟩
    obtain ⟨E, hE, e⟩ := mhd_step (fu := fu) (r := r) (z := z) (zk := zk) (m1 := m1) (mp := mp) (z3 := z3) (zj := zj) (zl := zl) (z5 := z5) (z6 := z6) (z7 := z7) (ze := ze) (n1 := n1) (t := KMt.mk f n) (c := KMc.mk a L) (show k < 8 by omega)
    rw [e, hd_step (by omega)]
    refine Sm.req h0 h1 hL (fun h => ?_) (fun c hc => ?_) (fun c => ⟨_, rfl, hE _⟩) (fun q h2 h3 => hd_dead j (k + 1) n2 (by omega) (by omega))
    · dsimp only
      rw [if_pos (hz k (by omega)).symm]
      exact ih (k + 1) (a + 1) n1 n2 (by omega) (by omega) h (by omega) (by omega)
    · dsimp only
      rw [if_neg (by rw [hz k (by omega)]; exact hc)]
      exact ⟨_, rfl, hE _⟩
set_option maxRecDepth 20000 in
theorem rd_mod (hB : BB f) (hfu : 2100 < fu) (h0 : 0 ≤ L) (hL : L ≤ 2000) (hz : ∀ k : Nat, k < 8 → z.magic k = (xHead k).toInt) {zs : KSo} (hzs : zs.bytes = f) {c0 : KMc} {C : KCo} {Ct : KCt} {Ex : KEx} {W1 : KW1} {W3 : KW3} {Wj : KWj} {W5 : KW5} {W6 : KW6} {BR : KBR} {Rd : KRd} :
    (∃ (c' : CSt) (m' : MSt) (mc' : KMc) (so' : KSo) (last : Int), f_Mo_readModule fu r z c0 zk (KMt.mk f L) m1 mp z3 zj zl z5 z6 z7 ze = .ret (r, mc', m') ∧ f_Rd_reads fu zs C Ct Ex W1 W3 Wj W5 W6 BR Rd L = .ret (so', c'.1, c'.2.1, c'.2.2.1, c'.2.2.2.1, c'.2.2.2.2.1, c'.2.2.2.2.2.1, c'.2.2.2.2.2.2.1, c'.2.2.2.2.2.2.2.1, c'.2.2.2.2.2.2.2.2.1, c'.2.2.2.2.2.2.2.2.2, true) ∧ so'.bytes = f ∧ RdR f last L c' m' ∧ m'.2.2.2.1.functions = m'.2.2.2.2.1.codes) ∨
    (∃ (t : KRf × KMc × MSt) (so' : KSo) (c' : CSt), f_Mo_readModule fu r z c0 zk (KMt.mk f L) m1 mp z3 zj zl z5 z6 z7 ze = .thr t ∧ t.1 = 1 ∧ f_Rd_reads fu zs C Ct Ex W1 W3 Wj W5 W6 BR Rd L = .ret (so', c'.1, c'.2.1, c'.2.2.1, c'.2.2.2.1, c'.2.2.2.2.1, c'.2.2.2.2.2.1, c'.2.2.2.2.2.2.1, c'.2.2.2.2.2.2.2.1, c'.2.2.2.2.2.2.2.2.1, c'.2.2.2.2.2.2.2.2.2, false) ∧ so'.bytes = f) := by
  subst hzs
  unfold f_Mo_readModule f_Rd_reads
  rw [show f_So_open zs L = .ret (KSo.mk 0 L false zs.bytes) from rfl, obind_ret]
  rw [show f_Wa_clear C Ex W1 W3 W5 W6 = .ret (KCo.mk 0 C.ops C.values C.extras C.ends C.elses 0 C.labels, KEx.mk 0 Ex.kinds Ex.indices Ex.nameLengths Ex.names, KW1.mk 0 W1.parameterCounts W1.parameters W1.results, KW3.mk 0 W3.functionTypes, KW5.mk false 0 0, KW6.mk 0 W6.globalTypes W6.globalsChange W6.initialTypes W6.initialValues) from rfl, obind_ret]
  simp only [jp_ite]
  simp only [jp, rd_ite]
  rw [show (KMt.mk zs.bytes L).length = L from rfl]
  have key0 := lp_head (fu := fu) (f := zs.bytes) (r := r) (zk := zk) (m1 := m1) (mp := mp) (z3 := z3) (zj := zj) (zl := zl) (z5 := z5) (z6 := z6) (z7 := z7) (ze := ze) hL (n := L) hz 8 0 0 fu fu rfl (Int.le_refl _) h0 (by omega) (by omega)
  rw [show ((0 : Nat) : Int) = 0 from rfl] at key0
  rcases key0 with ⟨q, x, y, e1, e2, e3, e4, rfl, rfl⟩ | ⟨t, q, y, e1, e2, e3, e4, e5, _⟩
  · rw [e1, e2, obind2_ret, obind_ret]
    dsimp only
    have hR : RdR zs.bytes 0 q (KCo.mk 0 C.ops C.values C.extras C.ends C.elses 0 C.labels, Ct, KEx.mk 0 Ex.kinds Ex.indices Ex.nameLengths Ex.names, KW1.mk 0 W1.parameterCounts W1.parameters W1.results, KW3.mk 0 W3.functionTypes, Wj, KW5.mk false 0 0, KW6.mk 0 W6.globalTypes W6.globalsChange W6.initialTypes W6.initialValues, BR, KRd.mk 0) (zk, KM1.mk 0 m1.parameterCount m1.results, mp, KM3.mk 0 z3.typeOf, KMj.mk 0 zj.codeAt zj.codeEnd zj.localCount, zl, KM5.mk 0 z5.least z5.most z5.hasMost, KM6.mk 0 z6.globalTypes z6.globalKinds z6.changes z6.starts, KM7.mk 0 z7.exportKinds z7.exportOf z7.nameAt z7.nameLength, ze) := by
      refine ⟨⟨0, by omega, rfl, rfl, fun t ht => absurd ht (by omega), fun i k h => absurd h.1 (by omega)⟩, ⟨0, by omega, rfl, rfl, fun t ht => absurd ht (by omega)⟩, Or.inl ⟨rfl, rfl⟩, ⟨0, by omega, rfl, rfl, fun t ht => absurd ht (by omega)⟩, ⟨0, by omega, rfl, rfl, fun t ht => absurd ht (by omega)⟩, ⟨0, by omega, rfl, rfl, Int.le_refl _, by show (0 : Int) ≤ q; omega, Int.le_refl _, by show (0 : Int) ≤ q; omega, CRel.nil⟩, fun _ => rfl, fun _ => ⟨rfl, rfl⟩⟩
    have key := lp_secs (fu := fu) (r := r) hB hfu hL 2000 0 q L 0 _ _ fu fu (by omega) (by omega) e4 (by omega) (Int.le_refl _) (by omega) (by omega) hR
    dsimp only at key
    rcases key with ⟨q2, x, y, g1, g2, g3, g4, c', m', l', last', k', rfl, rfl, rfl, g5⟩ | ⟨t, q2, y, g1, g2, g3, g4, g5, _⟩
    · rw [g1, obind2_ret]
      have g2' := g2
      rw [show ((0 : Nat) : Int) = 0 from rfl] at g2'
      rw [g2', obind_ret]
      dsimp only
      rw [show f_So_hasFailed (KSo.mk q2 q2 false zs.bytes) = .ret false from rfl, obind_ret, if_neg (show ¬ (false = true) from Bool.false_ne_true)]
      obtain ⟨T3, a1, a2, a3, a4⟩ := g5.2.1
      obtain ⟨T10, b1, b2, b3, b4⟩ := g5.2.2.2.2.2.1
      by_cases ce : m'.2.2.2.1.functions = m'.2.2.2.2.1.codes
      · rw [if_pos ce, if_pos (show KRd.codeCount c'.2.2.2.2.2.2.2.2.2 = c'.2.2.2.2.1.functionCount from b2.trans (b3.symm.trans (ce.symm.trans (a3.trans a2.symm))))]
        exact Or.inl ⟨c', m', _, _, last', rfl, rfl, rfl, g5, ce⟩
      · rw [if_neg ce, if_neg (show ¬ KRd.codeCount c'.2.2.2.2.2.2.2.2.2 = c'.2.2.2.2.1.functionCount from fun q => ce (a3.trans (a2.symm.trans (q.symm.trans (b2.trans b3.symm)))))]
        exact Or.inr ⟨_, _, c', rfl, rfl, rfl, rfl⟩
    · rw [g1, obind2_thr]
      have g3' := g3
      rw [show ((0 : Nat) : Int) = 0 from rfl] at g3'
      rw [g3', obind_ret]
      obtain ⟨x1, x2, x3, x4, x5, x6, x7, x8, x9, x10, x11, x12⟩ := y
      dsimp only
      rw [show f_So_hasFailed (KSo.mk q2 L true zs.bytes) = .ret true from rfl, obind_ret, if_pos rfl]
      exact Or.inr ⟨t, _, (x1, x2, x3, x4, x5, x6, x7, x8, x9, x10), rfl, g2, rfl, rfl⟩
  · rw [e1, obind2_thr]
    rw [e3, obind_ret]
    dsimp only
    obtain ⟨m, hm⟩ : ∃ q, fu = q + 1 := ⟨fu - 1, by omega⟩
    have := rs_stop (fu := fu) (f := zs.bytes) (a := q) (L := L) (b := true) (Or.inl rfl) (c := (KCo.mk 0 C.ops C.values C.extras C.ends C.elses 0 C.labels, Ct, KEx.mk 0 Ex.kinds Ex.indices Ex.nameLengths Ex.names, KW1.mk 0 W1.parameterCounts W1.parameters W1.results, KW3.mk 0 W3.functionTypes, Wj, KW5.mk false 0 0, KW6.mk 0 W6.globalTypes W6.globalsChange W6.initialTypes W6.initialValues, BR, KRd.mk 0)) (last := 0) (k := 0) (n2 := m)
    rw [← hm] at this
    dsimp only at this
    rw [this, obind_ret]
    dsimp only
    rw [show f_So_hasFailed (KSo.mk q L true zs.bytes) = .ret true from rfl, obind_ret, if_pos rfl]
    exact Or.inr ⟨t, _, (KCo.mk 0 C.ops C.values C.extras C.ends C.elses 0 C.labels, Ct, KEx.mk 0 Ex.kinds Ex.indices Ex.nameLengths Ex.names, KW1.mk 0 W1.parameterCounts W1.parameters W1.results, KW3.mk 0 W3.functionTypes, Wj, KW5.mk false 0 0, KW6.mk 0 W6.globalTypes W6.globalsChange W6.initialTypes W6.initialValues, BR, KRd.mk 0), rfl, e2, rfl, rfl⟩
end HED
