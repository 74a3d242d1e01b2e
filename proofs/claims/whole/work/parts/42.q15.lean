/-! THE CODE: what one instruction is on the tape, and what the class keeps of it -/
/-- the instructions that there are -/
abbrev kn (o : Int) : Prop := (0 ≤ o ∧ o ≤ 5) ∨ (11 ≤ o ∧ o ≤ 16) ∨ (26 ≤ o ∧ o ≤ 27) ∨ (32 ≤ o ∧ o ≤ 36) ∨ (40 ≤ o ∧ o ≤ 41) ∨ (44 ≤ o ∧ o ≤ 45) ∨ (54 ≤ o ∧ o ≤ 55) ∨ (58 ≤ o ∧ o ≤ 58) ∨ (63 ≤ o ∧ o ≤ 66) ∨ (69 ≤ o ∧ o ≤ 90) ∨ (103 ≤ o ∧ o ≤ 138) ∨ (167 ≤ o ∧ o ≤ 167) ∨ (172 ≤ o ∧ o ≤ 173)
section ISK
variable {fu n : Nat} {o : Int}
set_option maxRecDepth 20000 in
theorem isK_step {k : Nat} (lo hi : Int) (hk : k + 1 < 26) (h1 : (xKnown k).toInt = lo) (h2 : (xKnown (k + 1)).toInt = hi) : L2_Op_isKnown fu o (n + 1) k = if lo ≤ o ∧ o ≤ hi then .ret true else L2_Op_isKnown fu o n ((k + 2 : Nat) : Int) := by
  rw [L2_Op_isKnown.eq_2, if_pos (show R32 ((k : Int) + 1) by omega), if_neg (show ¬ 26 ≤ (k : Int) + 1 by omega), if_pos (show 0 ≤ (k : Int) ∧ (k : Int) < 26 by omega)]
  simp only [jp]
  rw [if_pos (show R32 ((k : Int) + 2) by omega), if_pos (show R32 ((k : Int) + 1) by omega), if_pos (show 0 ≤ (k : Int) + 1 ∧ (k : Int) + 1 < 26 by omega)]
  have e1 : (xKnown (k : Int).toNat).toInt = lo := h1
  have e2 : (xKnown ((k : Int) + 1).toNat).toInt = hi := h2
  rw [e1, e2]
  by_cases c1 : o < lo
  · rw [if_pos c1, if_neg (by omega)]; rfl
  · by_cases c2 : hi < o
    · rw [if_neg c1, if_pos c2, if_neg (by omega)]; rfl
    · rw [if_neg c1, if_neg c2, if_pos (by omega)]
set_option maxRecDepth 20000 in
theorem isK_end : L2_Op_isKnown fu o (n + 1) ((26 : Nat) : Int) = .ret false := by
  rw [L2_Op_isKnown.eq_2]; rfl
set_option maxRecDepth 20000 in
theorem isK (hfu : 14 < fu) : f_Op_isKnown fu o = .ret (decide (kn o)) := by
  obtain ⟨m, rfl⟩ : ∃ m, fu = m + 14 := ⟨fu - 14, by omega⟩
  show L2_Op_isKnown (m + 14) o (m + 14) ((0 : Nat) : Int) = _
  rw [isK_step (n := m + 13) 0 5 (by decide) (by decide) (by decide), isK_step (n := m + 12) 11 16 (by decide) (by decide) (by decide), isK_step (n := m + 11) 26 27 (by decide) (by decide) (by decide), isK_step (n := m + 10) 32 36 (by decide) (by decide) (by decide), isK_step (n := m + 9) 40 41 (by decide) (by decide) (by decide), isK_step (n := m + 8) 44 45 (by decide) (by decide) (by decide), isK_step (n := m + 7) 54 55 (by decide) (by decide) (by decide), isK_step (n := m + 6) 58 58 (by decide) (by decide) (by decide), isK_step (n := m + 5) 63 66 (by decide) (by decide) (by decide), isK_step (n := m + 4) 69 90 (by decide) (by decide) (by decide), isK_step (n := m + 3) 103 138 (by decide) (by decide) (by decide), isK_step (n := m + 2) 167 167 (by decide) (by decide) (by decide), isK_step (n := m + 1) 172 173 (by decide) (by decide) (by decide), isK_end]
  by_cases c0 : 0 ≤ o ∧ o ≤ 5
  · rw [if_pos c0, decide_eq_true (by omega)]
  rw [if_neg c0]
  by_cases c1 : 11 ≤ o ∧ o ≤ 16
  · rw [if_pos c1, decide_eq_true (by omega)]
  rw [if_neg c1]
  by_cases c2 : 26 ≤ o ∧ o ≤ 27
  · rw [if_pos c2, decide_eq_true (by omega)]
  rw [if_neg c2]
  by_cases c3 : 32 ≤ o ∧ o ≤ 36
  · rw [if_pos c3, decide_eq_true (by omega)]
  rw [if_neg c3]
  by_cases c4 : 40 ≤ o ∧ o ≤ 41
  · rw [if_pos c4, decide_eq_true (by omega)]
  rw [if_neg c4]
  by_cases c5 : 44 ≤ o ∧ o ≤ 45
  · rw [if_pos c5, decide_eq_true (by omega)]
  rw [if_neg c5]
  by_cases c6 : 54 ≤ o ∧ o ≤ 55
  · rw [if_pos c6, decide_eq_true (by omega)]
  rw [if_neg c6]
  by_cases c7 : 58 ≤ o ∧ o ≤ 58
  · rw [if_pos c7, decide_eq_true (by omega)]
  rw [if_neg c7]
  by_cases c8 : 63 ≤ o ∧ o ≤ 66
  · rw [if_pos c8, decide_eq_true (by omega)]
  rw [if_neg c8]
  by_cases c9 : 69 ≤ o ∧ o ≤ 90
  · rw [if_pos c9, decide_eq_true (by omega)]
  rw [if_neg c9]
  by_cases c10 : 103 ≤ o ∧ o ≤ 138
  · rw [if_pos c10, decide_eq_true (by omega)]
  rw [if_neg c10]
  by_cases c11 : 167 ≤ o ∧ o ≤ 167
  · rw [if_pos c11, decide_eq_true (by omega)]
  rw [if_neg c11]
  by_cases c12 : 172 ≤ o ∧ o ≤ 173
  · rw [if_pos c12, decide_eq_true (by omega)]
  rw [if_neg c12]
  rw [decide_eq_false (by omega)]
end ISK
/-- loads and stores -/
abbrev ldst (o : Int) : Prop := (40 ≤ o ∧ o ≤ 41) ∨ (44 ≤ o ∧ o ≤ 45) ∨ (54 ≤ o ∧ o ≤ 55) ∨ o = 58
/-- with an index behind -/
abbrev idxd (o : Int) : Prop := o = 12 ∨ o = 13 ∨ o = 16 ∨ (32 ≤ o ∧ o ≤ 36)
/-- with nothing behind -/
abbrev smpl (o : Int) : Prop := o = 0 ∨ o = 1 ∨ o = 5 ∨ o = 11 ∨ o = 15 ∨ o = 26 ∨ o = 27 ∨ (69 ≤ o ∧ o ≤ 90) ∨ (103 ≤ o ∧ o ≤ 138) ∨ o = 167 ∨ o = 172 ∨ o = 173
/-- the labels of a table, one behind the other -/
def Lbl (f : Nat → Int32) (lab : Nat → Int) : Nat → Nat → Int → Int → Prop
  | 0, _, p, q => p = q
  | n + 1, l, p, q => ∃ p1, Idx f p p1 (lab l) ∧ 0 ≤ lab l ∧ lab l ≤ 2147483647 ∧ Lbl f lab n (l + 1) p1 q
/-- what stands behind the byte of an instruction, from p to q, and what the class keeps of it (a value, a number more, labels below lc) -/
def DecI (f : Nat → Int32) (o : Int) (v : Int64) (e : Int) (lab : Nat → Int) (lc p q : Int) : Prop :=
  (2 ≤ o ∧ o ≤ 4 → q = p + 1 ∧ e = by8 (f p.toNat) ∧ (e = 64 ∨ e = 127 ∨ e = 126)) ∧
  (idxd o → Idx f p q v.toInt ∧ 0 ≤ v.toInt ∧ v.toInt ≤ 2147483647) ∧
  (o = 14 → ∃ (n l : Nat) (q1 : Int), Few 50 f p q1 n ∧ n ≤ 50 ∧ v = (iI n).toInt64 ∧ e = l ∧ (l : Int) + n + 1 ≤ lc ∧ Lbl f lab (n + 1) l q1 q) ∧
  (ldst o → ∃ q1, Idx f p q1 e ∧ 0 ≤ e ∧ e ≤ 2147483647 ∧ Cnt f q1 q v ∧ uL v < 2 ^ 32) ∧
  (o = 63 ∨ o = 64 → q = p + 1 ∧ by8 (f p.toNat) = 0) ∧
  (o = 65 → Sgn 32 f p q v ∧ R32 v.toInt) ∧ (o = 66 → Sgn 64 f p q v) ∧ (smpl o → q = p)
section IMM
variable {fu : Nat} {f : Nat → Int32} {a L n r o : Int} {c : KMc} {t : KMt}
set_option maxRecDepth 20000 in
theorem im_idx (h : idxd o) : f_Mo_immediates fu r c t o = obind2 (f_Mo_index fu r c t) (fun x => .ret (x.1, x.2.1)) (fun x => .thr (x.1, x.2)) := by
  unfold f_Mo_immediates
  simp only [jp]
  rcases h with h | h | h | h
  all_goals (repeat (first | rw [if_pos trivial] | rw [if_pos (by omega)] | rw [if_neg (by omega)]))
set_option maxRecDepth 20000 in
theorem im_mem (h : ldst o) : f_Mo_immediates fu r c t o = obind2 (f_Mo_index fu r c t) (fun x => obind2 (f_Mo_count fu x.1 x.2.1 t) (fun y => .ret (y.1, y.2.1)) (fun y => .thr (y.1, y.2))) (fun x => .thr (x.1, x.2)) := by
  unfold f_Mo_immediates
  simp only [jp]
  have h : o = 40 ∨ o = 41 ∨ o = 44 ∨ o = 45 ∨ o = 54 ∨ o = 55 ∨ o = 58 := by omega
  rcases h with h | h | h | h | h | h | h
  all_goals (repeat (first | rw [if_pos trivial] | rw [if_pos (by omega)] | rw [if_neg (by omega)]))
set_option maxRecDepth 20000 in
theorem im_tab : f_Mo_immediates fu r c t 14 = obind2 (f_Mo_few2 fu r c t 50) (fun x => obind2 (L54_Mo_immediates fu t x fu x.1 x.2.1 0) (fun y => .ret (y.1, y.2.1)) (fun t9 => .thr t9)) (fun x => .thr (x.1, x.2)) := by
  unfold f_Mo_immediates
  simp only [jp]
  repeat (first | rw [if_pos trivial] | rw [if_pos (by omega)] | rw [if_neg (by omega)])
set_option maxRecDepth 20000 in
theorem im_zero (h : o = 63 ∨ o = 64) : f_Mo_immediates fu r c t o = obind2 (f_Mo_one r c t) (fun x => if x.2.2 = 0 then .ret (x.1, x.2.1) else .thr (1, x.2.1)) (fun x => .thr (x.1, x.2)) := by
  unfold f_Mo_immediates
  simp only [jp]
  rcases h with h | h
  all_goals (repeat (first | rw [if_pos trivial] | rw [if_pos (by omega)] | rw [if_neg (by omega)]))
  all_goals rfl
set_option maxRecDepth 20000 in
theorem im_32 : f_Mo_immediates fu r c t 65 = obind2 (f_Mo_signed fu r c t 32) (fun x => .ret (x.1, x.2.1)) (fun x => .thr (x.1, x.2)) := by
  unfold f_Mo_immediates
  simp only [jp]
  repeat (first | rw [if_pos trivial] | rw [if_pos (by omega)] | rw [if_neg (by omega)])
set_option maxRecDepth 20000 in
theorem im_64 : f_Mo_immediates fu r c t 66 = obind2 (f_Mo_signed fu r c t 64) (fun x => .ret (x.1, x.2.1)) (fun x => .thr (x.1, x.2)) := by
  unfold f_Mo_immediates
  simp only [jp]
  repeat (first | rw [if_pos trivial] | rw [if_pos (by omega)] | rw [if_neg (by omega)])
set_option maxRecDepth 20000 in
theorem im_none (h : smpl o) (h5 : o ≠ 5) (h11 : o ≠ 11) : f_Mo_immediates fu r c t o = .ret (r, c) := by
  unfold f_Mo_immediates
  simp only [jp]
  rcases h with h | h | h | h | h | h | h | h | h | h | h | h <;> (first | omega | skip)
  all_goals (repeat (first | rw [if_pos trivial] | rw [if_pos (by omega)] | rw [if_neg (by omega)]))
  all_goals rfl
set_option maxRecDepth 20000 in
theorem im_bad (h : ¬ kn o) (h0 : 0 ≤ o) : f_Mo_immediates fu r c t o = .thr (1, c) := by
  unfold f_Mo_immediates
  simp only [jp]
  have h2 : o ≤ 31 ∨ (37 ≤ o ∧ o ≤ 68) ∨ (91 ≤ o ∧ o ≤ 102) ∨ 139 ≤ o := by omega
  rcases h2 with h2 | h2 | h2 | h2
  all_goals (repeat (first | rw [if_pos trivial] | rw [if_pos (by omega)] | rw [if_neg (by omega)]))
  all_goals rfl
end IMM

/-! THE CODE: what stands behind an instruction, in step -/
set_option maxRecDepth 20000 in
theorem updZ_id (g : Nat → Int) (k : Nat) : updZ g k (g k) = g := funext fun j => by
  unfold updZ; by_cases c : j = k
  · rw [if_pos c, c]
  · rw [if_neg c]
set_option maxRecDepth 20000 in
theorem updL_id (g : Nat → Int64) (k : Nat) : vp_updL g k (g k) = g := funext fun j => by
  unfold vp_updL; by_cases c : j = k
  · rw [if_pos c, c]
  · rw [if_neg c]
section IMR
variable {fu i : Nat} {f : Nat → Int32} {a L n r o S lc : Int} {z : KSo} {ops es en el lab : Nat → Int} {vs : Nat → Int64}
set_option maxRecDepth 20000 in
theorem ri_idx (hi : i < 2000) (h : idxd o) : f_BR_readImmediate fu z (KCo.mk S ops vs es en el lc lab) o i = obind (f_So_unsigned fu z 2147483647) (fun x => .ret (x.1, KCo.mk S ops (vp_updL vs i x.2) es en el lc lab)) := by
  have hc : (0 : Int) ≤ i ∧ (i : Int) < 2000 := by omega
  unfold f_BR_readImmediate
  simp only [jp, if_pos hc, Int.toNat_natCast]
  rcases h with h | h | h | h
  all_goals (repeat (first | rw [if_pos trivial] | rw [if_pos (by omega)] | rw [if_neg (by omega)]))
set_option maxRecDepth 20000 in
theorem ri_mem (hi : i < 2000) (h : ldst o) : f_BR_readImmediate fu z (KCo.mk S ops vs es en el lc lab) o i = obind (f_So_unsigned fu z 2147483647) (fun x => obind (f_So_unsigned fu x.1 4294967295) (fun y => .ret (y.1, KCo.mk S ops (vp_updL vs i y.2) (updZ es i x.2.toInt32.toInt) en el lc lab))) := by
  have hc : (0 : Int) ≤ i ∧ (i : Int) < 2000 := by omega
  unfold f_BR_readImmediate
  simp only [jp, if_pos hc, Int.toNat_natCast]
  repeat (first | rw [if_pos trivial] | rw [if_pos (by omega)] | rw [if_neg (by omega)])
set_option maxRecDepth 20000 in
theorem ri_zero (h : o = 63 ∨ o = 64) : f_BR_readImmediate fu z (KCo.mk S ops vs es en el lc lab) o i = obind (f_So_require z 0) (fun x => .ret (x, KCo.mk S ops vs es en el lc lab)) := by
  unfold f_BR_readImmediate
  simp only [jp]
  rcases h with h | h
  all_goals (repeat (first | rw [if_pos trivial] | rw [if_pos (by omega)] | rw [if_neg (by omega)]))
set_option maxRecDepth 20000 in
theorem ri_32 (hi : i < 2000) : f_BR_readImmediate fu z (KCo.mk S ops vs es en el lc lab) 65 i = obind (f_So_signed fu z 32) (fun x => .ret (x.1, KCo.mk S ops (vp_updL vs i x.2) es en el lc lab)) := by
  have hc : (0 : Int) ≤ i ∧ (i : Int) < 2000 := by omega
  unfold f_BR_readImmediate
  simp only [jp, if_pos hc, Int.toNat_natCast]
  repeat (first | rw [if_pos trivial] | rw [if_pos (by omega)] | rw [if_neg (by omega)])
set_option maxRecDepth 20000 in
theorem ri_64 (hi : i < 2000) : f_BR_readImmediate fu z (KCo.mk S ops vs es en el lc lab) 66 i = obind (f_So_signed fu z 64) (fun x => .ret (x.1, KCo.mk S ops (vp_updL vs i x.2) es en el lc lab)) := by
  have hc : (0 : Int) ≤ i ∧ (i : Int) < 2000 := by omega
  unfold f_BR_readImmediate
  simp only [jp, if_pos hc, Int.toNat_natCast]
  repeat (first | rw [if_pos trivial] | rw [if_pos (by omega)] | rw [if_neg (by omega)])
set_option maxRecDepth 20000 in
theorem ri_none (h : smpl o) : f_BR_readImmediate fu z (KCo.mk S ops vs es en el lc lab) o i = .ret (z, KCo.mk S ops vs es en el lc lab) := by
  unfold f_BR_readImmediate
  simp only [jp]
  have h2 : o ≤ 31 ∨ (59 ≤ o) := by omega
  rcases h2 with h2 | h2
  all_goals (repeat (first | rw [if_pos trivial] | rw [if_pos (by omega)] | rw [if_neg (by omega)]))
set_option maxRecDepth 20000 in
theorem pr_imm (hfu : 20 < fu) (h0 : 0 ≤ a) (h1 : a ≤ L) (hL : L ≤ 2000) (hi : i < 2000) (hk : kn o) (h5 : o ≠ 5) (h11 : o ≠ 11) (h14 : o ≠ 14) (h24 : ¬ (2 ≤ o ∧ o ≤ 4)) :
    Sm a L f (fun t => t.1 = 1) (fun _ => True) (f_Mo_immediates fu r (KMc.mk a L) (KMt.mk f n) o) (f_BR_readImmediate fu (KSo.mk a L false f) (KCo.mk S ops vs es en el lc lab) o i) (fun q x y => x = (r, KMc.mk q L) ∧ ∃ v e, y = KCo.mk S ops (vp_updL vs i v) (updZ es i e) en el lc lab ∧ DecI f o v e lab lc a q) := by
  have cs : idxd o ∨ ldst o ∨ (o = 63 ∨ o = 64) ∨ o = 65 ∨ o = 66 ∨ smpl o := by omega
  rcases cs with h | h | h | h | h | h
  · rw [im_idx h, ri_idx hi h]
    refine PrR.bindE (pr_idx (by omega) h0 h1 hL) (by decide) ?_ (fun c => ⟨_, rfl, rfl⟩) (fun q v _ _ _ => Dd.ret trivial)
    rintro q b v h2 h3 ⟨k1, k2, k3, k4⟩ e
    refine Sm.ret h3 ⟨rfl, v, es i, by rw [updZ_id], fun h => absurd h (by omega), fun _ => ⟨?_, by omega, by omega⟩, fun h => absurd h (by omega), fun h => absurd h (by omega), fun h => absurd h (by omega), fun h => absurd h (by omega), fun h => absurd h (by omega), fun h => absurd h (by omega)⟩
    rw [k1]; exact idx_of (by omega) h0 hL e (by omega)
  · rw [im_mem h, ri_mem hi h]
    refine PrR.bindE (pr_idx (by omega) h0 h1 hL) (by decide) ?_ (fun c => ⟨_, rfl, rfl⟩) ?_
    · rintro q b v h2 h3 ⟨k1, k2, k3, k4⟩ e
      dsimp only
      refine PrR.bindE (pr_cnt (by omega) (by omega) h3 hL) (by decide) ?_ (fun c => ⟨_, rfl, rfl⟩) (fun q v _ _ _ => Dd.ret trivial)
      rintro q2 w w' h4 h5 ⟨rfl, k5⟩ e2
      refine Sm.ret h5 ⟨rfl, w, v.toInt32.toInt, rfl, fun h => absurd h (by omega), fun h => absurd h (by omega), fun h => absurd h (by omega), fun _ => ⟨q, ?_, by omega, by omega, cnt_of (by omega) (by omega) hL e2 (by omega), k5⟩, fun h => absurd h (by omega), fun h => absurd h (by omega), fun h => absurd h (by omega), fun h => absurd h (by omega)⟩
      rw [k2]; exact idx_of (by omega) h0 hL e (by omega)
    · rintro q v _ _ rfl
      exact (Dd.uns (by omega)).bind fun y _ => Dd.ret trivial
  · rw [im_zero h, ri_zero h]
    by_cases ha : a < L
    · rw [mo_one h0 ha hL, so_req h0 ha hL, obind2_ret]
      by_cases hb : by8 (f a.toNat) = 0
      · dsimp only
        rw [if_pos hb, if_pos hb, obind_ret]
        refine Sm.low (b := a + 1) (Sm.ret (by omega) ⟨rfl, vs i, es i, by rw [updZ_id, updL_id], fun h => absurd h (by omega), fun h => absurd h (by omega), fun h => absurd h (by omega), fun h => absurd h (by omega), fun _ => ⟨rfl, hb⟩, fun h => absurd h (by omega), fun h => absurd h (by omega), fun h => absurd h (by omega)⟩) (by omega)
      · dsimp only
        rw [if_neg hb, if_neg hb, obind_ret]
        exact Sm.low (b := a + 1) (Sm.thr (by omega) rfl (Dd.ret trivial)) (by omega)
    · rw [mo_oneE (by omega), so_reqE (Or.inr (by omega)), obind2_thr, obind_ret]
      exact Sm.thr h1 rfl (Dd.ret trivial)
  · subst h
    rw [im_32, ri_32 hi]
    refine PrR.bindE (pr_sg (Or.inl rfl) (by omega) h0 h1 hL) (by decide) ?_ (fun c => ⟨_, rfl, rfl⟩) (fun q v _ _ _ => Dd.ret trivial)
    rintro q b v h2 h3 ⟨rfl, k1⟩ e
    exact Sm.ret h3 ⟨rfl, b, es i, by rw [updZ_id], fun h => absurd h (by omega), fun h => absurd h (by omega), fun h => absurd h (by omega), fun h => absurd h (by omega), fun h => absurd h (by omega), fun _ => ⟨sg_of (Or.inl rfl) (by omega) h0 hL e (by omega), k1 rfl⟩, fun h => absurd h (by omega), fun h => absurd h (by omega)⟩
  · subst h
    rw [im_64, ri_64 hi]
    refine PrR.bindE (pr_sg (Or.inr rfl) (by omega) h0 h1 hL) (by decide) ?_ (fun c => ⟨_, rfl, rfl⟩) (fun q v _ _ _ => Dd.ret trivial)
    rintro q b v h2 h3 ⟨rfl, k1⟩ e
    exact Sm.ret h3 ⟨rfl, b, es i, by rw [updZ_id], fun h => absurd h (by omega), fun h => absurd h (by omega), fun h => absurd h (by omega), fun h => absurd h (by omega), fun h => absurd h (by omega), fun h => absurd h (by omega), fun _ => sg_of (Or.inr rfl) (by omega) h0 hL e (by omega), fun h => absurd h (by omega)⟩
  · rw [im_none h h5 h11, ri_none h]
    exact Sm.ret h1 ⟨rfl, vs i, es i, by rw [updZ_id, updL_id], fun h => absurd h (by omega), fun h => absurd h (by omega), fun h => absurd h (by omega), fun h => absurd h (by omega), fun h => absurd h (by omega), fun h => absurd h (by omega), fun h => absurd h (by omega), fun _ => rfl⟩
end IMR
section TAB
variable {fu i : Nat} {f : Nat → Int32} {L n r o S : Int} {ops es en el : Nat → Int} {vs : Nat → Int64} {hs ts : Nat → Int}
set_option maxRecDepth 20000 in
theorem so_more {a : Int} {b : Bool} : f_So_hasMore (KSo.mk a L b f) = .ret (decide (b = false ∧ a < L)) := by
  unfold f_So_hasMore
  simp only [jp]
  cases b with
  | true => rfl
  | false =>
    rw [if_neg (show ¬ (KSo.mk a L false f).failed = true from Bool.false_ne_true)]
    by_cases h : a < L
    · rw [if_neg (show ¬ (KSo.mk a L false f).limit ≤ (KSo.mk a L false f).at_ from by show ¬ L ≤ a; omega), decide_eq_true ⟨rfl, h⟩]
    · rw [if_pos (show (KSo.mk a L false f).limit ≤ (KSo.mk a L false f).at_ from by show L ≤ a; omega), decide_eq_false (fun q => h q.2)]
set_option maxRecDepth 20000 in
theorem tb_end {x : KSo × Int64} {z : KSo} {C : KCo} {Ct : KCt} {k : Int} {n2 : Nat} (h : x.2.toInt32.toInt < k) : L41_BR_readTable fu x (n2 + 1) z C Ct k = .ret (z, C, Ct, k) := by
  rw [L41_BR_readTable.eq_2, if_pos h]
set_option maxRecDepth 20000 in
theorem tb_stop {x : KSo × Int64} {a : Int} {b : Bool} {C : KCo} {Ct : KCt} {k : Int} {n2 : Nat} (hs : b = true ∨ L ≤ a) : L41_BR_readTable fu x (n2 + 1) (KSo.mk a L b f) C Ct k = .ret (KSo.mk a L b f, C, Ct, k) := by
  rw [L41_BR_readTable.eq_2, so_more, obind_ret, decide_eq_false (by
    rintro ⟨h1, h2⟩
    rcases hs with h | h
    · rw [h] at h1; cases h1
    · omega), if_neg (show ¬ (false = true) by decide)]
  by_cases c : x.2.toInt32.toInt < k
  · rw [if_pos c]
  · rw [if_neg c]
set_option maxRecDepth 20000 in
theorem tb_step {x : KSo × Int64} {a : Int} {lab lt : Nat → Int} {lc k : Nat} {n2 : Nat} (h : ¬ x.2.toInt32.toInt < k) (ha : a < L) (hk : k ≤ 60) (hlc : lc < 2000) : L41_BR_readTable fu x (n2 + 1) (KSo.mk a L false f) (KCo.mk S ops vs es en el lc lab) (KCt.mk hs ts lt) k = obind (f_So_unsigned fu (KSo.mk a L false f) 2147483647) (fun y => L41_BR_readTable fu x n2 y.1 (KCo.mk S ops vs es en el ((lc + 1 : Nat) : Int) (updZ lab lc y.2.toInt32.toInt)) (KCt.mk hs ts (updZ lt lc (-1))) ((k + 1 : Nat) : Int)) := by
  have hc : (0 : Int) ≤ lc ∧ (lc : Int) < 2000 := by omega
  rw [L41_BR_readTable.eq_2, if_neg h, so_more, obind_ret, decide_eq_true ⟨rfl, ha⟩, if_pos rfl]
  congr 1; funext y
  unfold f_Co_addLabel
  rw [if_pos hc, if_pos hc, if_pos (show R32 ((lc : Int) + 1) by omega), obind_ret, if_pos (show R32 ((k : Int) + 1) by omega)]
  rfl
set_option maxRecDepth 20000 in
theorem mt_end {x : KRf × KMc × Int} {tp : KMt} {c : KMc} {k : Int} {n1 : Nat} (h : x.2.2 < k) : L54_Mo_immediates fu tp x (n1 + 1) r c k = .ret (r, c, k) := by
  rw [L54_Mo_immediates.eq_2, if_pos h]
set_option maxRecDepth 20000 in
theorem mt_step {x : KRf × KMc × Int} {tp : KMt} {c : KMc} {k : Nat} {n1 : Nat} (h : ¬ x.2.2 < k) (hk : k ≤ 60) : L54_Mo_immediates fu tp x (n1 + 1) r c k = obind2 (f_Mo_index fu r c tp) (fun y => L54_Mo_immediates fu tp x n1 y.1 y.2.1 ((k + 1 : Nat) : Int)) (fun y => .thr (y.1, y.2)) := by
  rw [L54_Mo_immediates.eq_2, if_neg h]
  simp only [if_pos (show R32 ((k : Int) + 1) by omega)]
  rfl
set_option maxRecDepth 20000 in
theorem Lbl.cg {lab lab' : Nat → Int} : ∀ (m l : Nat) (p q : Int), (∀ k, l ≤ k → k < l + m → lab' k = lab k) → Lbl f lab m l p q → Lbl f lab' m l p q := by
  intro m
  induction m with
  | zero => intro l p q _ h; exact h
  | succ m ih =>
    intro l p q hk ⟨p1, h1, h2, h3, h4⟩
    have e := hk l (by omega) (by omega)
    exact ⟨p1, by rw [e]; exact h1, by rw [e]; exact h2, by rw [e]; exact h3, ih (l + 1) p1 q (fun k a b => hk k (by omega) (by omega)) h4⟩
set_option maxRecDepth 20000 in
theorem lp_tab (hfu : 20 < fu) (hL : L ≤ 2000) {N : Nat} (hN : N ≤ 50) {x : KSo × Int64} (hx : x.2.toInt32.toInt = N) {x' : KRf × KMc × Int} (hx' : x'.2.2 = N) : ∀ (j k lc : Nat) (a : Int) (lab lt : Nat → Int) (n1 n2 : Nat), k + j = N + 1 → 0 ≤ a → a ≤ L → (lc : Int) ≤ a → j < n1 → j + 1 < n2 →
    (∃ (q : Int) (lab' lt' : Nat → Int), L54_Mo_immediates fu (KMt.mk f n) x' n1 r (KMc.mk a L) k = .ret (r, KMc.mk q L, ((N + 1 : Nat) : Int)) ∧ L41_BR_readTable fu x n2 (KSo.mk a L false f) (KCo.mk S ops vs es en el lc lab) (KCt.mk hs ts lt) k = .ret (KSo.mk q L false f, KCo.mk S ops vs es en el ((lc + j : Nat) : Int) lab', KCt.mk hs ts lt', ((N + 1 : Nat) : Int)) ∧ a + j ≤ q ∧ q ≤ L ∧ Lbl f lab' j lc a q ∧ (∀ l, l < lc → lab' l = lab l)) ∨
    (∃ (c : KMc) (q : Int) (b : Bool) (lc' : Nat) (lab' lt' : Nat → Int) (k' : Int), L54_Mo_immediates fu (KMt.mk f n) x' n1 r (KMc.mk a L) k = .thr (1, c) ∧ L41_BR_readTable fu x n2 (KSo.mk a L false f) (KCo.mk S ops vs es en el lc lab) (KCt.mk hs ts lt) k = .ret (KSo.mk q L b f, KCo.mk S ops vs es en el lc' lab', KCt.mk hs ts lt', k') ∧ a ≤ q ∧ q ≤ L ∧ lc' ≤ 2000 ∧ (b = true ∨ lc' < lc + j)) := by
  intro j
  induction j with
  | zero =>
    intro k lc a lab lt n1 n2 hk h0 h1 hlc hn1 hn2
    obtain ⟨n1, rfl⟩ : ∃ q, n1 = q + 1 := ⟨n1 - 1, by omega⟩
    obtain ⟨n2, rfl⟩ : ∃ q, n2 = q + 1 := ⟨n2 - 1, by omega⟩
    refine Or.inl ⟨a, lab, lt, ?_, ?_, by omega, h1, rfl, fun _ _ => rfl⟩
    · rw [mt_end (by rw [hx']; omega), show k = N + 1 by omega]
    · rw [tb_end (by rw [hx]; omega), show k = N + 1 by omega]; rfl
  | succ j ih =>
    intro k lc a lab lt n1 n2 hk h0 h1 hlc hn1 hn2
    obtain ⟨n1, rfl⟩ : ∃ q, n1 = q + 1 := ⟨n1 - 1, by omega⟩
    obtain ⟨n2, rfl⟩ : ∃ q, n2 = q + 1 := ⟨n2 - 1, by omega⟩
    rw [mt_step (by rw [hx']; omega) (by omega)]
    by_cases ha : a < L
    · rw [tb_step (by rw [hx]; omega) ha (by omega) (by omega)]
      rcases pr_idx (fu := fu) (f := f) (r := r) (n := n) (by omega) h0 h1 hL with ⟨q, b, v, e1, e2, e3, e4, k1, k2, k3, k4⟩ | ⟨c, q, v, e1, e2, e3, e4, rfl⟩
      · rw [e1, e2, obind2_ret, obind_ret]
        dsimp only
        rw [k2]
        rcases ih (k + 1) (lc + 1) q (updZ lab lc b) (updZ lt lc (-1)) n1 n2 (by omega) (by omega) e4 (by omega) (by omega) (by omega) with ⟨q2, lab', lt', g1, g2, g3, g4, g5, g6⟩ | ⟨c, q2, b2, lc', lab', lt', k', g1, g2, g3, g4, g5, g6⟩
        · refine Or.inl ⟨q2, lab', lt', g1, ?_, by omega, g4, ?_, fun l hl => ?_⟩
          · rw [g2, show lc + 1 + j = lc + (j + 1) by omega]
          · have e5 : lab' lc = b := by rw [g6 lc (by omega), updZ_s]
            exact ⟨q, by rw [e5]; exact idx_of (by omega) h0 hL e1 (by omega), by omega, by omega, g5⟩
          · rw [g6 l (by omega), updZ_n (by omega)]
        · exact Or.inr ⟨c, q2, b2, lc', lab', lt', k', g1, g2, by omega, g4, g5, g6.imp_right (fun h => by omega)⟩
      · rw [e1, e2, obind2_thr, obind_ret]
        obtain ⟨n2, rfl⟩ : ∃ q, n2 = q + 1 := ⟨n2 - 1, by omega⟩
        rw [tb_stop (Or.inl rfl)]
        exact Or.inr ⟨c, q, true, lc + 1, _, _, _, rfl, rfl, e3, e4, by omega, Or.inl rfl⟩
    · rw [tb_stop (Or.inr (by omega)), idx_eq, few_eq]
      rcases pr_idx (fu := fu) (f := f) (a := a) (L := L) (r := r) (n := n) (by omega) h0 h1 hL with ⟨q, b, v, e1, e2, e3, e4, k1, k2, k3, k4⟩ | ⟨c, q, v, e1, e2, e3, e4, rfl⟩
      · omega
      · rw [idx_eq, few_eq] at e1
        rw [e1, obind2_thr]
        exact Or.inr ⟨c, a, false, lc, lab, lt, k, rfl, rfl, by omega, h1, by omega, Or.inr (by omega)⟩
set_option maxRecDepth 20000 in
theorem pr_tab {a : Int} {lc : Nat} {lab lt : Nat → Int} (hfu : 60 < fu) (h0 : 0 ≤ a) (h1 : a ≤ L) (hL : L ≤ 2000) (hi : i < 2000) (hlc : (lc : Int) ≤ a) :
    Sm a L f (fun t => t.1 = 1) (fun _ => True) (f_Mo_immediates fu r (KMc.mk a L) (KMt.mk f n) 14) (f_BR_readTable fu (KSo.mk a L false f) (KCo.mk S ops vs es en el lc lab) (KCt.mk hs ts lt) i) (fun q x y => x = (r, KMc.mk q L) ∧ ∃ (v : Int64) (e : Int) (lc' : Nat) (lab' lt' : Nat → Int), y = (KCo.mk S ops (vp_updL vs i v) (updZ es i e) en el lc' lab', KCt.mk hs ts lt') ∧ DecI f 14 v e lab' lc' a q ∧ lc ≤ lc' ∧ (lc' : Int) ≤ q ∧ (∀ l, l < lc → lab' l = lab l) ∧ e = (lc : Int)) := by
  have hc : (0 : Int) ≤ i ∧ (i : Int) < 2000 := by omega
  rw [im_tab]
  unfold f_BR_readTable
  simp only [jp, if_pos hc, Int.toNat_natCast]
  refine PrR.bindE (pr_few (by decide) (by omega) h0 h1 hL) (by decide) ?_ (fun c => ⟨_, rfl, rfl⟩) ?_
  · rintro q N v h2 h3 ⟨k1, k2, k3, k4⟩ e
    have k4 : N ≤ 50 := k4
    obtain ⟨N, rfl⟩ := Int.eq_ofNat_of_zero_le k3
    dsimp only
    rw [k2]
    rcases lp_tab (f := f) (r := r) (n := n) (S := S) (ops := ops) (es := updZ es i lc) (en := en) (el := el) (vs := vp_updL vs i ((iI N).toInt64)) (hs := hs) (ts := ts) (show 20 < fu by omega) hL (N := N) (by omega) (x := (KSo.mk q L false f, v)) k2 (x' := (r, KMc.mk q L, (N : Int))) rfl (N + 1) 0 lc q lab lt fu fu (by omega) (by omega) h3 (by omega) (by omega) (by omega) with ⟨q2, lab', lt', g1, g2, g3, g4, g5, g6⟩ | ⟨c, q2, b2, lc', lab', lt', k', g1, g2, g3, g4, g5, g6⟩
    · rw [show ((0 : Nat) : Int) = (0 : Int) from rfl] at g1 g2
      rw [g1, g2, obind2_ret, obind_ret]
      dsimp only
      have e9 : updZ es i (lc : Int) i = lc := updZ_s _ _ _
      rw [if_pos (show R32 (((lc + (N + 1) : Nat) : Int) - updZ es i (lc : Int) i) by rw [e9]; omega), if_pos (show R32 ((N : Int) + 1) by omega), if_pos (show ((lc + (N + 1) : Nat) : Int) - updZ es i (lc : Int) i = (N : Int) + 1 by rw [e9]; omega)]
      refine Sm.low (b := q2) (Sm.ret g4 ⟨rfl, _, _, _, _, _, rfl, ⟨fun h => absurd h (by omega), fun h => absurd h (by omega), fun _ => ⟨N, lc, q, few_of (by omega) h0 hL e (by omega), by omega, rfl, rfl, by omega, g5⟩, fun h => absurd h (by omega), fun h => absurd h (by omega), fun h => absurd h (by omega), fun h => absurd h (by omega), fun h => absurd h (by omega)⟩, by omega, by omega, g6, rfl⟩) (by omega)
    · rw [show ((0 : Nat) : Int) = (0 : Int) from rfl] at g1 g2
      rw [g1, g2, obind2_thr, obind_ret]
      dsimp only
      have e9 : updZ es i (lc : Int) i = lc := updZ_s _ _ _
      rw [if_pos (show R32 (((lc' : Nat) : Int) - updZ es i (lc : Int) i) by rw [e9]; omega), if_pos (show R32 ((N : Int) + 1) by omega)]
      refine Sm.low (b := q2) (Sm.thr g4 rfl ?_) (by omega)
      by_cases hh : (lc' : Int) - updZ es i (lc : Int) i = (N : Int) + 1
      · rw [if_pos hh]
        rw [e9] at hh
        have : b2 = true := by rcases g6 with g | g; exact g; omega
        rw [this]; exact Dd.ret trivial
      · rw [if_neg hh, so_failM, obind_ret]
        exact Dd.ret trivial
  · rintro q v h2 h3 rfl
    obtain ⟨m, hm⟩ : ∃ m, fu = m + 1 := ⟨fu - 1, by omega⟩
    dsimp only
    have e : ∀ C Ct, L41_BR_readTable fu (KSo.mk q L true f, 0) fu (KSo.mk q L true f) C Ct 0 = .ret (KSo.mk q L true f, C, Ct, 0) := by
      intro C Ct
      have := tb_stop (fu := fu) (f := f) (L := L) (x := (KSo.mk q L true f, 0)) (a := q) (b := true) (C := C) (Ct := Ct) (k := 0) (n2 := m) (Or.inl rfl)
      rw [← hm] at this; exact this
    rw [e, obind_ret]
    dsimp only
    have e9 : updZ es i (lc : Int) i = lc := updZ_s _ _ _
    rw [if_pos (show R32 ((lc : Int) - updZ es i (lc : Int) i) by rw [e9]; omega), if_pos (show R32 ((0 : Int64).toInt32.toInt + 1) by decide), if_neg (show ¬ (lc : Int) - updZ es i (lc : Int) i = (0 : Int64).toInt32.toInt + 1 by rw [e9, show (0 : Int64).toInt32.toInt = 0 by decide]; omega), so_failM, obind_ret]
    exact Dd.ret trivial
end TAB
