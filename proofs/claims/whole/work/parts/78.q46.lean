/-! RUN: what is known of the open blocks at every instruction of a good function -/
/-- what a block carries to its label, and what it gives -/
abbrev hdO (C : KCo) (o : Nat) : Int × Int := ((if C.ops o = 3 then 0 else uT (C.extras o)), uT (C.extras o))
section SVI
variable {M1 : KM1} {Mp : KMp} {M3 : KM3} {Mj : KMj} {Ml : KMl} {M5 : KM5} {M6 : KM6} {g : Nat} {lab : Nat → Int} {o : Int} {v : Int64} {e : Int} {F F' R : SS} {x y : Fr}
set_option maxRecDepth 20000 in
/-- behind an instruction, block by block -/
theorem stV_inv {k4 : Prop} [Decidable k4] (h : stV M1 Mp M3 Mj Ml M5 M6 g lab k4 o v e F = some F') : ∃ x R, F = x :: R ∧ ((isOp o ∧ ∃ y : Fr, y.2 = x.2 ∧ F' = ([], false, (if o = 3 then 0 else uT e), uT e) :: y :: R) ∨ (o = 11 ∧ ∃ w R', R = w :: R' ∧ F' = pushA x.2.2.2 w :: R' ∧ (k4 → x.2.2.2 = 0)) ∨ (o = 5 ∧ F' = ([], false, x.2.2) :: R) ∨ (¬ isOp o ∧ o ≠ 11 ∧ o ≠ 5 ∧ ∃ y : Fr, y.2.2 = x.2.2 ∧ F' = y :: R)) := by
  cases F with
  | nil => cases h
  | cons x R =>
    refine ⟨x, R, rfl, ?_⟩
    unfold stV at h
    dsimp only at h
    by_cases c0 : o = 0
    · rw [if_pos c0] at h; cases h
      exact Or.inr (Or.inr (Or.inr ⟨by omega, by omega, by omega, loseA x, rfl, rfl⟩))
    rw [if_neg c0] at h
    by_cases c1 : o = 1
    · rw [if_pos c1] at h; cases h
      exact Or.inr (Or.inr (Or.inr ⟨by omega, by omega, by omega, _, rfl, rfl⟩))
    rw [if_neg c1] at h
    by_cases c : o = 2 ∨ o = 3
    · rw [if_pos c] at h; cases h
      exact Or.inl ⟨by omega, _, rfl, rfl⟩
    rw [if_neg c] at h
    by_cases c4 : o = 4
    · rw [if_pos c4] at h
      obtain ⟨a, e1, e2⟩ := omap_some h
      rw [← e2, if_neg (show ¬ o = 3 by omega)]
      exact Or.inl ⟨by omega, _, popA_snd e1, rfl⟩
    rw [if_neg c4] at h
    by_cases c5 : o = 5
    · rw [if_pos c5] at h
      obtain ⟨a, e1, h⟩ := obnd_some h
      obtain ⟨_, h⟩ := ite_some h
      cases h
      exact Or.inr (Or.inr (Or.inl ⟨c5, rfl⟩))
    rw [if_neg c5] at h
    by_cases c11 : o = 11
    · rw [if_pos c11] at h
      obtain ⟨a, e1, h⟩ := obnd_some h
      obtain ⟨q, h⟩ := ite_some h
      cases R with
      | nil => cases h
      | cons w R' => cases h; exact Or.inr (Or.inl ⟨c11, w, R', rfl, rfl, q.2⟩)
    rw [if_neg c11] at h
    refine Or.inr (Or.inr (Or.inr ⟨by omega, c11, c5, ?_⟩))
    by_cases c : o = 12
    · rw [if_pos c] at h
      obtain ⟨l, e1, h⟩ := obnd_some h
      obtain ⟨a, e2, e3⟩ := omap_some h
      exact ⟨loseA a, by show a.2.2 = x.2.2; rw [popO_snd e2], e3.symm⟩
    rw [if_neg c] at h
    by_cases c : o = 13
    · rw [if_pos c] at h
      obtain ⟨l, e1, h⟩ := obnd_some h
      obtain ⟨b, e2, h⟩ := obnd_some h
      obtain ⟨a, e3, e4⟩ := omap_some h
      exact ⟨_, by rw [push_snd, popO_snd e3, popA_snd e2], e4.symm⟩
    rw [if_neg c] at h
    by_cases c : o = 14
    · rw [if_pos c] at h
      obtain ⟨l, e1, h⟩ := obnd_some h
      obtain ⟨_, h⟩ := ite_some h
      obtain ⟨b, e2, h⟩ := obnd_some h
      obtain ⟨a, e3, e4⟩ := omap_some h
      exact ⟨loseA a, by show a.2.2 = x.2.2; rw [popO_snd e3, popA_snd e2], e4.symm⟩
    rw [if_neg c] at h
    by_cases c : o = 15
    · rw [if_pos c] at h
      obtain ⟨a, e2, e3⟩ := omap_some h
      exact ⟨loseA a, by show a.2.2 = x.2.2; rw [popO_snd e2], e3.symm⟩
    rw [if_neg c] at h
    obtain ⟨a, e2, e3⟩ := omap_some h
    exact ⟨a, by rw [op_snd e2], e3.symm⟩
end SVI
/-- the blocks that are open, each with what lay under it when it was opened -/
def LI (C : KCo) (stk : Nat → List Nat) (s e : Nat) (Fs : Nat → SS) (rs : Int) : List Nat → SS → Prop
  | [], F => ∃ x : Fr, F = [x] ∧ x.2.2 = (rs, rs)
  | o :: t, F => ∃ (x : Fr) (R : SS), F = x :: R ∧ x.2.2 = hdO C o ∧ R = (Fs (o + 1)).tail ∧ t = stk o ∧ s ≤ o ∧ o < e ∧ isOp (C.ops o) ∧ LI C stk s e Fs rs t R
section LIS
variable {C : KCo} {stk : Nat → List Nat} {s e : Nat} {Fs : Nat → SS} {rs : Int}
set_option maxRecDepth 20000 in
theorem LI.hd {l : List Nat} {x y : Fr} {R : SS} (h : LI C stk s e Fs rs l (x :: R)) (hy : y.2.2 = x.2.2) : LI C stk s e Fs rs l (y :: R) := by
  cases l with
  | nil =>
    obtain ⟨x', h1, h2⟩ := h
    cases h1
    exact ⟨y, rfl, hy.trans h2⟩
  | cons o t =>
    obtain ⟨x', R', h1, h2, h3⟩ := h
    cases h1
    exact ⟨y, R, rfl, hy.trans h2, h3⟩
set_option maxRecDepth 20000 in
theorem LI.ne {l : List Nat} {F : SS} (h : LI C stk s e Fs rs l F) : ∃ x R, F = x :: R := by
  cases l with
  | nil => obtain ⟨x, h1, _⟩ := h; exact ⟨x, [], h1⟩
  | cons o t => obtain ⟨x, R, h1, _⟩ := h; exact ⟨x, R, h1⟩
set_option maxRecDepth 20000 in
theorem LI.len : ∀ {l : List Nat} {F : SS}, LI C stk s e Fs rs l F → F.length = l.length + 1
  | [], F, h => by obtain ⟨x, h1, _⟩ := h; rw [h1]; rfl
  | o :: t, F, h => by
    obtain ⟨x, R, h1, h2, h3, h4, h5, h6, h7, h8⟩ := h
    rw [h1, List.length_cons, List.length_cons, LI.len h8]
set_option maxRecDepth 20000 in
theorem LI.get : ∀ {l : List Nat} {F : SS} {k o : Nat}, LI C stk s e Fs rs l F → l[k]? = some o → ∃ x : Fr, F[k]? = some x ∧ x.2.2 = hdO C o ∧ F.drop (k + 1) = (Fs (o + 1)).tail ∧ l.drop (k + 1) = stk o ∧ s ≤ o ∧ o < e ∧ isOp (C.ops o) ∧ LI C stk s e Fs rs (stk o) (F.drop (k + 1))
  | [], F, k, o, h, hk => by cases hk
  | o' :: t, F, 0, o, h, hk => by
    obtain ⟨x, R, h1, h2, h3, h4, h5, h6, h7, h8⟩ := h
    cases hk
    subst h1
    exact ⟨x, rfl, h2, h3, h4, h5, h6, h7, h4 ▸ h8⟩
  | o' :: t, F, k + 1, o, h, hk => by
    obtain ⟨x, R, h1, h2, h3, h4, h5, h6, h7, h8⟩ := h
    subst h1
    exact LI.get (l := t) (F := R) (k := k) h8 hk
set_option maxRecDepth 20000 in
theorem LI.bot : ∀ {l : List Nat} {F : SS}, LI C stk s e Fs rs l F → ∃ x : Fr, F[l.length]? = some x ∧ x.2.2 = (rs, rs)
  | [], F, h => by obtain ⟨x, h1, h2⟩ := h; subst h1; exact ⟨x, rfl, h2⟩
  | o :: t, F, h => by
    obtain ⟨x, R, h1, h2, h3, h4, h5, h6, h7, h8⟩ := h
    subst h1
    exact LI.bot (l := t) (F := R) h8
variable {M1 : KM1} {Mp : KMp} {M3 : KM3} {Mj : KMj} {Ml : KMl} {M5 : KM5} {M6 : KM6} {g : Nat} {ct : KCt}
set_option maxRecDepth 20000 in
theorem LI.all (hSK : SK C.ops C.ends C.elses s e stk) (hV : VFn M1 Mp M3 Mj Ml M5 M6 g C stk s e Fs ct) : ∀ (d k : Nat), k = s + d → k ≤ e → LI C stk s e Fs (res M1 M3 g) (stk k) (Fs k) := by
  intro d
  induction d with
  | zero =>
    intro k hk he
    have hk2 : k = s := by omega
    rw [hk2, hSK.1, hV.1]
    exact ⟨_, rfl, rfl⟩
  | succ d ih =>
    intro k hk he
    obtain ⟨k, rfl⟩ : ∃ q, k = q + 1 := ⟨k - 1, by omega⟩
    have hI := ih k (by omega) (by omega)
    have hS := hSK.2.1 k (by omega) (by omega)
    obtain ⟨x, R, h1, h2⟩ := stV_inv (hV.2.1 k (by omega) (by omega))
    rw [h1] at hI
    rcases h2 with ⟨c, y, e1, e2⟩ | ⟨c, w, R', e1, e2, _⟩ | ⟨c, e2⟩ | ⟨c1, c2, c3, y, e1, e2⟩
    · rw [hS.1 c, e2]
      exact ⟨_, _, rfl, rfl, by rw [e2]; rfl, rfl, by omega, by omega, c, hI.hd (by rw [e1])⟩
    · obtain ⟨o, t, f1, f2, f3, f4, f5⟩ := hS.2.1 c
      rw [f1] at hI
      obtain ⟨x', R2, g1, g2, g3, g4, g5, g6, g7, g8⟩ := hI
      cases g1
      rw [f2, e2]
      rw [e1] at g8
      exact g8.hd (by rw [push_snd])
    · obtain ⟨o, t, f1, f2, f3, f4, f5⟩ := hS.2.2.1 c
      rw [f2, e2]
      exact hI.hd rfl
    · rw [hS.2.2.2.1 c1 c2 c3, e2]
      exact hI.hd e1
set_option maxRecDepth 20000 in
/-- behind the end of a block -/
theorem at_end (hSK : SK C.ops C.ends C.elses s e stk) (hste : stk e = []) (hV : VFn M1 Mp M3 Mj Ml M5 M6 g C stk s e Fs ct) {o : Nat} (h1 : s ≤ o) (h2 : o < e) (h3 : isOp (C.ops o)) : ∃ (E : Nat) (w : Fr) (R : SS), C.ends o = E ∧ o < E ∧ E < e ∧ C.ops E = 11 ∧ stk E = o :: stk o ∧ stk (E + 1) = stk o ∧ (Fs (o + 1)).tail = w :: R ∧ Fs (E + 1) = pushA (uT (C.extras o)) w :: R ∧ (C.ops o = 4 → C.elses o < 0 → uT (C.extras o) = 0) := by
  obtain ⟨a1, a2⟩ := hSK.2.2.1 o h1 h2 h3
  obtain ⟨E, b1, b2, b3, b4, b5, b6⟩ := a2 (by rw [hste]; exact List.not_mem_nil)
  have hI := LI.all hSK hV (E - s) E (by omega) (by omega)
  have hS := hSK.2.1 E (by omega) (by omega)
  obtain ⟨x, R, h4, h5⟩ := stV_inv (hV.2.1 E (by omega) (by omega))
  rw [b5, h4] at hI
  obtain ⟨x', R2, g1, g2, g3, g4, g5, g6, g7, g8⟩ := hI
  cases g1
  obtain ⟨o', t, f1, f2, f3, f4, f5⟩ := hS.2.1 b4
  rw [b5] at f1
  cases f1
  rcases h5 with ⟨c, y, e1, e2⟩ | ⟨c, w, R', e1, e2, e3⟩ | ⟨c, e2⟩ | ⟨c1, c2, c3, y, e1, e2⟩
  · omega
  · refine ⟨E, w, R', b1, b2, b3, b4, b5, f2, g3.symm.trans e1, ?_, fun q1 q2 => ?_⟩
    · rw [e2, g2]
    · have := e3 (by rw [b5]; exact ⟨List.cons_ne_nil _ _, q1, q2⟩)
      rwa [g2] at this
  · omega
  · exact absurd b4 c2
set_option maxRecDepth 20000 in
/-- behind an else -/
theorem at_else (hSK : SK C.ops C.ends C.elses s e stk) (hste : stk e = []) (hV : VFn M1 Mp M3 Mj Ml M5 M6 g C stk s e Fs ct) {o : Nat} (h1 : s ≤ o) (h2 : o < e) (h3 : C.ops o = 4) (h4 : ¬ C.elses o < 0) : ∃ X : Nat, C.elses o = X ∧ o < X ∧ X < e ∧ C.ops X = 5 ∧ stk X = o :: stk o ∧ stk (X + 1) = o :: stk o ∧ C.ends X = C.ends o ∧ Fs (X + 1) = ([], false, hdO C o) :: (Fs (o + 1)).tail := by
  have hop : isOp (C.ops o) := by omega
  obtain ⟨a1, a2⟩ := hSK.2.2.1 o h1 h2 hop
  obtain ⟨E, b1, b2, b3, b4, b5, b6⟩ := a2 (by rw [hste]; exact List.not_mem_nil)
  rcases a1 with a1 | ⟨X, c1, c2, c3, c4, c5, c6⟩
  · omega
  have hI := LI.all hSK hV (X - s) X (by omega) (by omega)
  have hS := hSK.2.1 X (by omega) (by omega)
  obtain ⟨x, R, h4, h5⟩ := stV_inv (hV.2.1 X (by omega) (by omega))
  rw [c6, h4] at hI
  obtain ⟨x', R2, g1, g2, g3, g4, g5, g6, g7, g8⟩ := hI
  cases g1
  obtain ⟨o', t, f1, f2, f3, f4, f5⟩ := hS.2.2.1 c4
  rcases h5 with ⟨c, y, e1, e2⟩ | ⟨c, w, R', e1, e2, e3⟩ | ⟨c, e2⟩ | ⟨q1, q2, q3, y, e1, e2⟩
  · omega
  · omega
  · exact ⟨X, c1, c2, c3, c4, c6, f2.trans c6, (b6 X c1).2.trans b1.symm, by rw [e2, g2, g3]⟩
  · exact absurd c4 q3
end LIS
/-! frames that can be reached -/
/-- a block that can be reached, with types that are known -/
abbrev lv (x : Fr) : Prop := x.2.1 = false ∧ ∀ t, t ∈ x.1 → t = 127 ∨ t = 126
def Live (F : SS) : Prop := ∀ x, x ∈ F → lv x
set_option maxRecDepth 20000 in
theorem Live.cons {x : Fr} {R : SS} : Live (x :: R) ↔ lv x ∧ Live R := ⟨fun h => ⟨h x List.mem_cons_self, fun y hy => h y (List.mem_cons_of_mem _ hy)⟩, fun h y hy => by
  rcases List.mem_cons.mp hy with q | q
  · rw [q]; exact h.1
  · exact h.2 y q⟩
set_option maxRecDepth 20000 in
theorem Live.drop {F : SS} (h : Live F) (k : Nat) : Live (F.drop k) := fun x hx => h x (List.mem_of_mem_drop hx)
set_option maxRecDepth 20000 in
theorem popA_live {w : Int} {x : Fr} {y : Int × Fr} (h : popA w x = some y) (hx : lv x) : x.1 = y.1 :: y.2.1 ∧ (0 < w → y.1 = w) ∧ (y.1 = 127 ∨ y.1 = 126) ∧ lv y.2 ∧ y.2.2 = x.2 := by
  obtain ⟨vs, b⟩ := x
  unfold popA at h
  cases vs with
  | nil =>
    dsimp only at h
    rw [if_neg (by rw [hx.1]; exact Bool.false_ne_true)] at h; cases h
  | cons t r =>
    dsimp only at h
    obtain ⟨c, h⟩ := ite_some h
    have ht := hx.2 t List.mem_cons_self
    rw [if_neg (show ¬ (t = -1 ∧ 0 < w) by omega)] at h
    cases h
    exact ⟨rfl, fun q => by show t = w; omega, ht, ⟨hx.1, fun u hu => hx.2 u (List.mem_cons_of_mem _ hu)⟩, rfl⟩
set_option maxRecDepth 20000 in
theorem popO_live {w : Int} {x y : Fr} (h : popO w x = some y) (hw : Ty0 w) (hx : lv x) : x.1 = (if w = 0 then y.1 else w :: y.1) ∧ lv y ∧ y.2 = x.2 := by
  unfold popO at h
  by_cases c : w = 0
  · rw [if_pos c] at h; cases h; exact ⟨by rw [if_pos c], hx, rfl⟩
  · rw [if_neg c] at h
    obtain ⟨z, e1, e2⟩ := omap_some h
    obtain ⟨k1, k2, k3, k4, k5⟩ := popA_live e1 hx
    subst e2
    rw [if_neg c]
    exact ⟨by rw [k1, k2 (by omega)], k4, k5⟩
set_option maxRecDepth 20000 in
theorem pushA_live {t : Int} {x : Fr} (ht : Ty0 t) (hx : lv x) : lv (pushA t x) ∧ (pushA t x).1 = (if t = 0 then x.1 else t :: x.1) := by
  unfold pushA
  by_cases c : t = 0
  · rw [if_pos c, if_pos c]; exact ⟨hx, rfl⟩
  · rw [if_neg c, if_neg c]
    refine ⟨⟨hx.1, fun u hu => ?_⟩, rfl⟩
    rcases List.mem_cons.mp hu with q | q
    · rw [q]; omega
    · exact hx.2 u q
/-- values on the stack, each as its type asks -/
def VT (st : Nat → Int64) (b : Nat) : List Int → Prop
  | [] => True
  | t :: r => (t = 127 → R32 (st (b + r.length)).toInt) ∧ VT st b r
set_option maxRecDepth 20000 in
theorem VT.cg {st st' : Nat → Int64} {b : Nat} : ∀ (l : List Int), (∀ k, k < b + l.length → b ≤ k → st' k = st k) → VT st b l → VT st' b l
  | [], _, _ => trivial
  | t :: r, h, ⟨h1, h2⟩ => ⟨fun q => by rw [h _ (by rw [List.length_cons]; omega) (by omega)]; exact h1 q, VT.cg r (fun k hk => h k (by rw [List.length_cons]; omega)) h2⟩
set_option maxRecDepth 20000 in
theorem VT.app {st : Nat → Int64} {b : Nat} : ∀ (l r : List Int), VT st b (l ++ r) → VT st b r
  | [], _, h => h
  | _ :: l, r, h => VT.app l r h.2
set_option maxRecDepth 20000 in
theorem VT.push {st : Nat → Int64} {b : Nat} {l : List Int} {t : Int} {v : Int64} (h : VT st b l) (hv : t = 127 → R32 v.toInt) : VT (vp_updL st (b + l.length) v) b (t :: l) :=
  ⟨fun q => by rw [show vp_updL st (b + l.length) v (b + l.length) = v from updL_s _ _ _]; exact hv q, VT.cg l (fun k hk _ => updL_n (by omega)) h⟩
