/-! VALID: the reference -/
set_option maxRecDepth 20000 in
theorem mo_val {r : Int} : f_Mo_valid r true = .ret r := rfl
set_option maxRecDepth 20000 in
theorem mo_valE {r : Int} : f_Mo_valid r false = .thr 2 := rfl
set_option maxRecDepth 20000 in
theorem vl_ite {τ α : Type} {c : Prop} [Decidable c] {r : Int} {K E : KRf → Out τ α} : obind2 (f_Mo_valid r (if c then true else false)) K E = if c then K r else E 2 := by
  by_cases h : c
  · rw [if_pos h, if_pos h, mo_val, obind2_ret]
  · rw [if_neg h, if_neg h, mo_valE, obind2_thr]
set_option maxRecDepth 20000 in
theorem vl_ite' {τ α : Type} {c : Prop} [Decidable c] {r : Int} {K E : KRf → Out τ α} : obind2 (f_Mo_valid r (if c then false else true)) K E = if c then E 2 else K r := by
  by_cases h : c
  · rw [if_pos h, if_pos h, mo_valE, obind2_thr]
  · rw [if_neg h, if_neg h, mo_val, obind2_ret]
def Rvp (r : Int) (R : SS) (N : Nat) (F : Out (KRf × KVt) (KRf × KVt × Int)) (X : Option (Int × Fr)) : Prop := (∃ y z, X = some y ∧ F = .ret (r, z, y.1) ∧ TyS y.1 ∧ ST z (y.2 :: R) ∧ tot (y.2 :: R) ≤ N) ∨ (∃ t, X = none ∧ F = .thr t ∧ t.1 = 2)
def Rg {τ α : Type} (R : SS) (N : Nat) (T : τ → Prop) (mk : KVt → α) (F : Out τ α) (X : Option Fr) : Prop := (∃ y z, X = some y ∧ F = .ret (mk z) ∧ ST z (y :: R) ∧ tot (y :: R) ≤ N) ∨ (∃ t, X = none ∧ F = .thr t ∧ T t)
abbrev VOk (vo : KVo) (F : SS) : Prop := ROr vo F ∧ vo.depth = (F.length : Int) ∧ F.length ≤ 101
section RVS
variable {τ α : Type} {r : Int} {R : SS} {N N' : Nat} {vo : KVo} {z : KVt} {x : Fr} {T : τ → Prop} {mk : KVt → α}
set_option maxRecDepth 20000 in
theorem Rvp.bind {F : Out (KRf × KVt) (KRf × KVt × Int)} {X : Option (Int × Fr)} {K : KRf × KVt × Int → Out τ α} {E : KRf × KVt → Out τ α} {k : Int × Fr → Option Fr} (h : Rvp r R N F X) (hk : ∀ y z, X = some y → TyS y.1 → ST z (y.2 :: R) → tot (y.2 :: R) ≤ N → Rg R N' T mk (K (r, z, y.1)) (k y)) (he : ∀ t, t.1 = 2 → ∃ t', E t = .thr t' ∧ T t') : Rg R N' T mk (obind2 F K E) (X.bind k) := by
  rcases h with ⟨y, z, rfl, rfl, h1, h2, h3⟩ | ⟨t, rfl, rfl, h1⟩
  · rw [obind2_ret]; exact hk y z rfl h1 h2 h3
  · obtain ⟨t', e, h2⟩ := he t h1
    rw [obind2_thr, e]; exact Or.inr ⟨t', rfl, rfl, h2⟩
set_option maxRecDepth 20000 in
theorem Rvp.map {F : Out (KRf × KVt) (KRf × KVt × Int)} {X : Option (Int × Fr)} {K : KRf × KVt × Int → Out τ α} {E : KRf × KVt → Out τ α} {k : Int × Fr → Fr} (h : Rvp r R N F X) (hk : ∀ y z, X = some y → TyS y.1 → ST z (y.2 :: R) → tot (y.2 :: R) ≤ N → Rg R N' T mk (K (r, z, y.1)) (some (k y))) (he : ∀ t, t.1 = 2 → ∃ t', E t = .thr t' ∧ T t') : Rg R N' T mk (obind2 F K E) (X.map k) := by
  have := h.bind (k := fun y => some (k y)) hk he
  cases X <;> exact this
set_option maxRecDepth 20000 in
theorem Rg.ret {y : Fr} (h : ST z (y :: R)) (hn : tot (y :: R) ≤ N) : Rg R N T mk (.ret (mk z)) (some y) := Or.inl ⟨y, z, rfl, rfl, h, hn⟩
set_option maxRecDepth 20000 in
theorem Rg.no {t : τ} (h : T t) : Rg R N T mk (.thr t : Out τ α) none := Or.inr ⟨t, rfl, rfl, h⟩
set_option maxRecDepth 20000 in
theorem Rg.bind {σ β : Type} {S : σ → Prop} {mk' : KVt → β} {F : Out σ β} {X : Option Fr} {K : β → Out τ α} {E : σ → Out τ α} {k : Fr → Option Fr} (h : Rg R N S mk' F X) (hk : ∀ y z, X = some y → ST z (y :: R) → tot (y :: R) ≤ N → Rg R N' T mk (K (mk' z)) (k y)) (he : ∀ t, S t → ∃ t', E t = .thr t' ∧ T t') : Rg R N' T mk (obind2 F K E) (X.bind k) := by
  rcases h with ⟨y, z, rfl, rfl, h2, h3⟩ | ⟨t, rfl, rfl, h1⟩
  · rw [obind2_ret]; exact hk y z rfl h2 h3
  · obtain ⟨t', e, h2⟩ := he t h1
    rw [obind2_thr, e]; exact Or.inr ⟨t', rfl, rfl, h2⟩
set_option maxRecDepth 20000 in
theorem Rg.re {σ β : Type} {S : σ → Prop} {mk' : KVt → β} {F : Out σ β} {X : Option Fr} {K : β → Out τ α} {E : σ → Out τ α} (h : Rg R N S mk' F X) (hk : ∀ z, K (mk' z) = .ret (mk z)) (he : ∀ t, S t → ∃ t', E t = .thr t' ∧ T t') : Rg R N T mk (obind2 F K E) X := by
  have := h.bind (k := some) (N' := N) (T := T) (mk := mk) (K := K) (fun y z _ h2 h3 => by rw [hk]; exact Rg.ret h2 h3) he
  cases X <;> exact this
set_option maxRecDepth 20000 in
theorem VOk.vs (h : VOk vo (x :: R)) {y : Fr} (e : y.2 = x.2) : VOk vo (y :: R) := by
  obtain ⟨⟨h1, h2, h3, h4, h5, h6, h7⟩, h8, h9⟩ := h
  exact ⟨⟨h1, by rw [e]; exact h2, by rw [e]; exact h3, by rw [e]; exact h4, by rw [e]; exact h5, by rw [e]; exact h6, h7⟩, h8, h9⟩
set_option maxRecDepth 20000 in
theorem r_pop {w : Int} (hw : Ty0 w) (hV : VOk vo (x :: R)) (hT : ST z (x :: R)) (hn : tot (x :: R) ≤ N) (hN : N ≤ 2000) : Rvp r R N (f_Mo_pop r z vo w) (popA w x) := by
  obtain ⟨sk, h⟩ := z
  obtain ⟨vs, lost, lab, out⟩ := x
  obtain ⟨hT1, hT2⟩ := hT
  obtain ⟨⟨o1, o2, o3, o4, o5, o6, o7⟩, hd, hl⟩ := hV
  rw [List.length_cons] at hd hl
  have hT1 : h = tot ((vs, lost, lab, out) :: R) := hT1
  rw [tot_cons] at hT1 hn
  dsimp only at hT1 hn o2
  have e1 : (vo.depth - 1).toNat = R.length := by omega
  unfold f_Mo_pop
  simp only [jp]
  rw [if_pos (show R32 (vo.depth - 1) by omega), if_pos (show 0 ≤ vo.depth - 1 ∧ vo.depth - 1 < 102 by omega), e1, o1]
  unfold popA
  cases vs with
  | nil =>
    have hT0 : h = ((0 + tot R : Nat) : Int) := hT1
    rw [if_pos (show KVt.top (sk, h) = (tot R : Int) by show h = _; omega), if_pos (show R32 (vo.depth - 1) by omega), if_pos (show 0 ≤ vo.depth - 1 ∧ vo.depth - 1 < 102 by omega), o2]
    dsimp only
    cases lost with
    | true =>
      rw [mo_val, obind2_ret, if_pos rfl]
      refine Or.inl ⟨_, (sk, h), rfl, ?_, ?_, ⟨(show h = ((tot (([], true, lab, out) :: R) : Nat) : Int) by rw [tot_cons]; exact hT0), hT2⟩, by rw [tot_cons]; exact hn⟩
      · dsimp only
        by_cases c : w = 0
        · rw [if_pos c, if_pos c]
        · rw [if_neg c, if_neg c]
      · dsimp only
        rcases hw with q | q | q <;> subst q <;> decide
    | false =>
      rw [mo_valE, obind2_thr, if_neg Bool.false_ne_true]
      exact Or.inr ⟨_, rfl, rfl, rfl⟩
  | cons t r' =>
    obtain ⟨a1, a2, a3⟩ := hT2
    rw [List.length_cons] at hT1 hn
    have eh : (h - 1).toNat = (r' ++ flat R).length := by rw [List.length_append]; show _ = r'.length + tot R; omega
    rw [if_neg (show ¬ KVt.top (sk, h) = (tot R : Int) by show ¬ h = _; omega), if_pos (show R32 (KVt.top (sk, h) - 1) by show R32 (h - 1); omega), if_pos (show 0 ≤ KVt.top (sk, h) - 1 ∧ KVt.top (sk, h) - 1 < 2000 by show 0 ≤ h - 1 ∧ h - 1 < 2000; omega)]
    have e2 : KVt.stack (sk, h) (KVt.top (sk, h) - 1).toNat = t := by
      show sk (h - 1).toNat = t
      rw [eh]; exact a1
    rw [e2]
    have st : ST (KVt.mk sk (h - 1)) ((r', lost, lab, out) :: R) := ⟨by show h - 1 = ((tot ((r', lost, lab, out) :: R) : Nat) : Int); rw [tot_cons]; dsimp only; omega, a3⟩
    have hn2 : tot ((r', lost, lab, out) :: R) ≤ N := by rw [tot_cons]; dsimp only; omega
    have good : (if t = -1 then if w ≤ 0 then (.ret (r, KVt.mk sk (h - 1), t) : Out (KRf × KVt) (KRf × KVt × Int)) else .ret (r, KVt.mk sk (h - 1), w) else .ret (r, KVt.mk sk (h - 1), t)) = .ret (r, KVt.mk sk (h - 1), if t = -1 ∧ 0 < w then w else t) := by
      by_cases ct : t = -1
      · rw [if_pos ct]
        by_cases cw : w ≤ 0
        · rw [if_pos cw, if_neg (by omega)]
        · rw [if_neg cw, if_pos ⟨ct, by omega⟩]
      · rw [if_neg ct, if_neg (fun q => ct q.1)]
    have ty : TyS (if t = -1 ∧ 0 < w then w else t) := by
      by_cases c : t = -1 ∧ 0 < w
      · rw [if_pos c]; rcases hw with q | q | q <;> subst q <;> first | decide | omega
      · rw [if_neg c]; exact a2
    dsimp only
    by_cases c1 : t = w
    · rw [if_pos c1, if_pos (Or.inl c1), mo_val, obind2_ret]
      exact Or.inl ⟨_, _, rfl, good, ty, st, hn2⟩
    · rw [if_neg c1]
      by_cases c2 : w ≤ 0
      · rw [if_pos c2, if_pos (Or.inr (Or.inl c2)), mo_val, obind2_ret]
        exact Or.inl ⟨_, _, rfl, good, ty, st, hn2⟩
      · rw [if_neg c2]
        by_cases c3 : t = -1
        · rw [if_pos c3, if_pos (Or.inr (Or.inr c3)), mo_val, obind2_ret]
          exact Or.inl ⟨_, _, rfl, good, ty, st, hn2⟩
        · rw [if_neg c3, if_neg (by rintro (q | q | q); exact c1 q; exact c2 q; exact c3 q), mo_valE, obind2_thr]
          exact Or.inr ⟨_, rfl, rfl, rfl⟩
set_option maxRecDepth 20000 in
theorem r_popO {w : Int} (hw : Ty0 w) (hV : VOk vo (x :: R)) (hT : ST z (x :: R)) (hn : tot (x :: R) ≤ N) (hN : N ≤ 2000) : Rg R N (fun t : KRf × KVt => t.1 = 2) (fun z => (r, z)) (f_Mo_popOut r z vo w) (popO w x) := by
  unfold f_Mo_popOut popO
  simp only [jp]
  by_cases c : w = 0
  · rw [if_pos c, if_pos c]; exact Rg.ret hT hn
  · rw [if_neg c, if_neg c]
    exact Rvp.map (r_pop hw hV hT hn hN) (fun y z _ _ h2 h3 => Rg.ret h2 h3) (fun t ht => ⟨_, rfl, ht⟩)
set_option maxRecDepth 20000 in
theorem r_pushX {t : Int} (ht : TyS t) (hT : ST z (x :: R)) (hn : tot (x :: R) ≤ N) (hN : N < 2000) : 0 ≤ z.top ∧ z.top < 2000 ∧ R32 (z.top + 1) ∧ ST (KVt.mk (updZ z.stack z.top.toNat t) (z.top + 1)) ((t :: x.1, x.2) :: R) ∧ tot ((t :: x.1, x.2) :: R) ≤ N + 1 := by
  obtain ⟨sk, h⟩ := z
  obtain ⟨hT1, hT2⟩ := hT
  have hT1 : h = ((tot (x :: R) : Nat) : Int) := hT1
  have e1 : tot ((t :: x.1, x.2) :: R) = tot (x :: R) + 1 := by rw [tot_cons, tot_cons]; dsimp only; rw [List.length_cons]; omega
  refine ⟨by show 0 ≤ h; omega, by show h < 2000; omega, by show R32 (h + 1); omega, ⟨by show h + 1 = _; rw [e1]; omega, ?_⟩, by omega⟩
  have e2 : (KVt.top (sk, h)).toNat = (x.1 ++ flat R).length := by show h.toNat = tot (x :: R); omega
  show ALr (updZ sk (KVt.top (sk, h)).toNat t) (t :: (x.1 ++ flat R))
  rw [e2]
  exact ⟨updZ_s _ _ _, ht, ALr.cg _ (fun k hk => updZ_n (by omega)) hT2⟩
set_option maxRecDepth 20000 in
theorem r_push {t : Int} (ht : Ty0 t) (hT : ST z (x :: R)) (hn : tot (x :: R) ≤ N) (hN : N < 2000) : ∃ z', f_Mo_push z t = .ret z' ∧ ST z' (pushA t x :: R) ∧ tot (pushA t x :: R) ≤ N + 1 := by
  unfold f_Mo_push pushA
  by_cases c : t = 0
  · rw [if_pos c, if_pos c]; exact ⟨z, rfl, hT, by omega⟩
  · rw [if_neg c, if_neg c]
    obtain ⟨h1, h2, h3, h4, h5⟩ := r_pushX (t := t) (by rcases ht with q | q | q; exact absurd q c; exact Or.inr (Or.inl q); exact Or.inr (Or.inr q)) hT hn hN
    rw [if_pos ⟨h1, h2⟩, if_pos h3]
    exact ⟨_, rfl, h4, h5⟩
set_option maxRecDepth 20000 in
theorem Rg.push {t : Int} {H : KVt → Out τ α} (hH : ∀ z, H z = .ret (mk z)) (ht : Ty0 t) (hT : ST z (x :: R)) (hn : tot (x :: R) ≤ N) (hN : N < 2000) : Rg R (N + 1) T mk (obind (f_Mo_push z t) H) (some (pushA t x)) := by
  obtain ⟨z', e, h1, h2⟩ := r_push ht hT hn hN
  rw [e, obind_ret, hH]; exact Rg.ret h1 h2
set_option maxRecDepth 20000 in
theorem r_num {o : Int} (ho : numo o) (hV : VOk vo (x :: R)) (hT : ST z (x :: R)) (hn : tot (x :: R) ≤ N) (hN : N < 2000) : Rg R (N + 1) (fun t : KRf × KVt => t.1 = 2) (fun z => (r, z)) (f_Mo_validNumbers r z vo o) (numA (nIn o) (nOut o) (nOne o) x) := by
  unfold f_Mo_validNumbers numA
  simp only [jp]
  have tI : nIn o = 127 ∨ nIn o = 126 := by show (if _ then (127 : Int) else 126) = 127 ∨ _; split; exact Or.inl rfl; exact Or.inr rfl
  have tO : Ty0 (nOut o) := by
    show Ty0 (if _ then (127 : Int) else if _ then 126 else nIn o)
    split
    · exact Or.inr (Or.inl rfl)
    · split
      · exact Or.inr (Or.inr rfl)
      · exact Or.inr tI
  have core : ∀ (i u : Int) (b : Bool), nIn o = i → nOut o = u → nOne o = b → Rg R (N + 1) (fun t : KRf × KVt => t.1 = 2) (fun z => (r, z)) (obind2 (f_Mo_pop r z vo i) (fun x_7 => if b = true then obind (f_Mo_push x_7.2.1 u) (fun x_11 => .ret (x_7.1, x_11)) else obind2 (f_Mo_pop x_7.1 x_7.2.1 vo i) (fun x_14 => obind (f_Mo_push x_14.2.1 u) (fun x_11 => .ret (x_14.1, x_11))) (fun x_14 => .thr (x_14.1, x_14.2))) (fun x_7 => .thr (x_7.1, x_7.2))) ((popA (nIn o) x).bind (fun y => if nOne o = true then some (pushA (nOut o) y.2) else (popA (nIn o) y.2).map (fun z => pushA (nOut o) z.2))) := by
    rintro _ _ _ rfl rfl rfl
    refine Rvp.bind (r_pop (Or.inr tI) hV hT hn (by omega)) (fun y z e1 e2 e3 e4 => ?_) (fun t ht => ⟨_, rfl, ht⟩)
    dsimp only
    by_cases c : nOne o = true
    · rw [if_pos c, if_pos c]; exact Rg.push (fun _ => rfl) tO e3 e4 hN
    · rw [if_neg c, if_neg c]
      exact Rvp.map (r_pop (Or.inr tI) (hV.vs (popA_snd e1)) e3 e4 (by omega)) (fun w z f1 f2 f3 f4 => Rg.push (fun _ => rfl) tO f3 f4 hN) (fun t ht => ⟨_, rfl, ht⟩)
  have k1 : ∀ (i u : Int) (b : Bool), nIn o = i → nOut o = u → nOne o = b → b = true → Rg R (N + 1) (fun t : KRf × KVt => t.1 = 2) (fun z => (r, z)) (obind2 (f_Mo_pop r z vo i) (fun x_7 => if True then obind (f_Mo_push x_7.2.1 u) (fun x_11 => .ret (x_7.1, x_11)) else obind2 (f_Mo_pop x_7.1 x_7.2.1 vo i) (fun x_14 => obind (f_Mo_push x_14.2.1 u) (fun x_11 => .ret (x_14.1, x_11))) (fun x_14 => .thr (x_14.1, x_14.2))) (fun x_7 => .thr (x_7.1, x_7.2))) ((popA (nIn o) x).bind (fun y => if nOne o = true then some (pushA (nOut o) y.2) else (popA (nIn o) y.2).map (fun z => pushA (nOut o) z.2))) := by
    intro i u b h1 h2 h3 h4
    have := core i u b h1 h2 h3
    subst h4
    simpa only [if_pos] using this
  have k0 : ∀ (i u : Int) (b : Bool), nIn o = i → nOut o = u → nOne o = b → b = false → Rg R (N + 1) (fun t : KRf × KVt => t.1 = 2) (fun z => (r, z)) (obind2 (f_Mo_pop r z vo i) (fun x_7 => if false = true then obind (f_Mo_push x_7.2.1 u) (fun x_11 => .ret (x_7.1, x_11)) else obind2 (f_Mo_pop x_7.1 x_7.2.1 vo i) (fun x_14 => obind (f_Mo_push x_14.2.1 u) (fun x_11 => .ret (x_14.1, x_11))) (fun x_14 => .thr (x_14.1, x_14.2))) (fun x_7 => .thr (x_7.1, x_7.2))) ((popA (nIn o) x).bind (fun y => if nOne o = true then some (pushA (nOut o) y.2) else (popA (nIn o) y.2).map (fun z => pushA (nOut o) z.2))) := by
    intro i u b h1 h2 h3 h4
    have := core i u b h1 h2 h3
    subst h4
    exact this
  have cs : (69 = o) ∨ (70 ≤ o ∧ o ≤ 79) ∨ (80 = o) ∨ (81 ≤ o ∧ o ≤ 90) ∨ (103 ≤ o ∧ o ≤ 105) ∨ (106 ≤ o ∧ o ≤ 120) ∨ (121 ≤ o ∧ o ≤ 123) ∨ (124 ≤ o ∧ o ≤ 138) ∨ (167 = o) ∨ (172 ≤ o) := by omega
  rcases cs with q | q | q | q | q | q | q | q | q | q
  all_goals (
    have hI : (nIn o = 127 ∧ (o ≤ 79 ∨ (103 ≤ o ∧ o ≤ 120) ∨ 172 ≤ o)) ∨ (nIn o = 126 ∧ ¬ (o ≤ 79 ∨ (103 ≤ o ∧ o ≤ 120) ∨ 172 ≤ o)) := by
      by_cases c : o ≤ 79 ∨ (103 ≤ o ∧ o ≤ 120) ∨ 172 ≤ o
      · exact Or.inl ⟨if_pos c, c⟩
      · exact Or.inr ⟨if_neg c, c⟩
    rcases hI with ⟨hI, hI2⟩ | ⟨hI, hI2⟩
    all_goals first
      | (exfalso; omega)
      | (repeat (first | rw [if_pos (by omega)] | rw [if_neg (by omega)])
         first
         | exact k1 _ _ _ hI (by show (if o ≤ 90 ∨ o = 167 then (127 : Int) else if 172 ≤ o then 126 else nIn o) = _; first | rw [if_pos (by omega)] | (rw [if_neg (by omega), if_pos (by omega)]) | (rw [if_neg (by omega), if_neg (by omega)]; exact hI)) (decide_eq_true (by omega)) rfl
         | exact k0 _ _ _ hI (by show (if o ≤ 90 ∨ o = 167 then (127 : Int) else if 172 ≤ o then 126 else nIn o) = _; first | rw [if_pos (by omega)] | (rw [if_neg (by omega), if_pos (by omega)]) | (rw [if_neg (by omega), if_neg (by omega)]; exact hI)) (decide_eq_false (by omega)) rfl))
end RVS
