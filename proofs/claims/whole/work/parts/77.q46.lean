/-! RUN: what is known of the open blocks at every instruction of a good function -/
/-- what a block carries to its label, and what it gives -/
abbrev hdO (C : KCo) (o : Nat) : Int × Int := ((if C.ops o = 3 then 0 else uT (C.extras o)), uT (C.extras o))
section SVI
variable {M1 : KM1} {Mp : KMp} {M3 : KM3} {Mj : KMj} {Ml : KMl} {M5 : KM5} {M6 : KM6} {g : Nat} {lab : Nat → Int} {o : Int} {v : Int64} {e : Int} {F F' R : SS} {x y : Fr}
set_option maxRecDepth 20000 in
/-- behind an instruction, block by block -/
theorem stV_inv {k4 : Prop} [Decidable k4] (h : stV M1 Mp M3 Mj Ml M5 M6 g lab k4 o v e F = some F') : ∃ x R, F = x :: R ∧ ((isOp o ∧ ∃ y : Fr, y.2 = x.2 ∧ F' = ([], false, (if o = 3 then 0 else uT e), uT e) :: y :: R) ∨ (o = 11 ∧ ∃ w R', R = w :: R' ∧ F' = pushA x.2.2.2 w :: R' ∧ (k4 → x.2.2.2 = 0)) ∨ (o = 5 ∧ F' = ([], false, x.2.2) :: R) ∨ (¬ isOp o ∧ o ≠ 11 ∧ o ≠ 5 ∧ ∃ y : Fr, y.2.2 = x.2.2 ∧ F' = y :: R)) := by
  cases F with
  | nil => cases h
  | cons x R =>
    refine ⟨x, R, rfl, ?_⟩
    unfold stV at h
    dsimp only at h
    by_cases c0 : o = 0
    · rw [if_pos c0] at h; cases h
      exact Or.inr (Or.inr (Or.inr ⟨by omega, by omega, by omega, loseA x, rfl, rfl⟩))
    rw [if_neg c0] at h
    by_cases c1 : o = 1
    · rw [if_pos c1] at h; cases h
      exact Or.inr (Or.inr (Or.inr ⟨by omega, by omega, by omega, _, rfl, rfl⟩))
    rw [if_neg c1] at h
    by_cases c : o = 2 ∨ o = 3
    · rw [if_pos c] at h; cases h
      exact Or.inl ⟨by omega, _, rfl, rfl⟩
    rw [if_neg c] at h
    by_cases c4 : o = 4
    · rw [if_pos c4] at h
      obtain ⟨a, e1, e2⟩ := omap_some h
      rw [← e2, if_neg (show ¬ o = 3 by omega)]
      exact Or.inl ⟨by omega, _, popA_snd e1, rfl⟩
    rw [if_neg c4] at h
    by_cases c5 : o = 5
    · rw [if_pos c5] at h
      obtain ⟨a, e1, h⟩ := obnd_some h
      obtain ⟨_, h⟩ := ite_some h
      cases h
      exact Or.inr (Or.inr (Or.inl ⟨c5, rfl⟩))
    rw [if_neg c5] at h
    by_cases c11 : o = 11
    · rw [if_pos c11] at h
      obtain ⟨a, e1, h⟩ := obnd_some h
      obtain ⟨q, h⟩ := ite_some h
      cases R with
      | nil => cases h
      | cons w R' => cases h; exact Or.inr (Or.inl ⟨c11, w, R', rfl, rfl, q.2⟩)
    rw [if_neg c11] at h
    refine Or.inr (Or.inr (Or.inr ⟨by omega, c11, c5, ?_⟩))
    by_cases c : o = 12
    · rw [if_pos c] at h
      obtain ⟨l, e1, h⟩ := obnd_some h
      obtain ⟨a, e2, e3⟩ := omap_some h
      exact ⟨loseA a, by show a.2.2 = x.2.2; rw [popO_snd e2], e3.symm⟩
    rw [if_neg c] at h
    by_cases c : o = 13
    · rw [if_pos c] at h
      obtain ⟨l, e1, h⟩ := obnd_some h
      obtain ⟨b, e2, h⟩ := obnd_some h
      obtain ⟨a, e3, e4⟩ := omap_some h
      exact ⟨_, by rw [push_snd, popO_snd e3, popA_snd e2], e4.symm⟩
    rw [if_neg c] at h
    by_cases c : o = 14
    · rw [if_pos c] at h
      obtain ⟨l, e1, h⟩ := obnd_some h
      obtain ⟨_, h⟩ := ite_some h
      obtain ⟨b, e2, h⟩ := obnd_some h
      obtain ⟨a, e3, e4⟩ := omap_some h
      exact ⟨loseA a, by show a.2.2 = x.2.2; rw [popO_snd e3, popA_snd e2], e4.symm⟩
    rw [if_neg c] at h
    by_cases c : o = 15
    · rw [if_pos c] at h
      obtain ⟨a, e2, e3⟩ := omap_some h
      exact ⟨loseA a, by show a.2.2 = x.2.2; rw [popO_snd e2], e3.symm⟩
    rw [if_neg c] at h
    obtain ⟨a, e2, e3⟩ := omap_some h
    exact ⟨a, by rw [op_snd e2], e3.symm⟩
end SVI
/-- the blocks that are open, each with what lay under it when it was opened -/
def LI (C : KCo) (stk : Nat → List Nat) (s e : Nat) (Fs : Nat → SS) (rs : Int) : List Nat → SS → Prop
  | [], F => ∃ x : Fr, F = [x] ∧ x.2.2 = (rs, rs)
  | o :: t, F => ∃ (x : Fr) (R : SS), F = x :: R ∧ x.2.2 = hdO C o ∧ R = (Fs (o + 1)).tail ∧ t = stk o ∧ s ≤ o ∧ o < e ∧ isOp (C.ops o) ∧ LI C stk s e Fs rs t R
section LIS
variable {C : KCo} {stk : Nat → List Nat} {s e : Nat} {Fs : Nat → SS} {rs : Int}
set_option maxRecDepth 20000 in
theorem LI.hd {l : List Nat} {x y : Fr} {R : SS} (h : LI C stk s e Fs rs l (x :: R)) (hy : y.2.2 = x.2.2) : LI C stk s e Fs rs l (y :: R) := by
  cases l with
  | nil =>
    obtain ⟨x', h1, h2⟩ := h
    cases h1
    exact ⟨y, rfl, hy.trans h2⟩
  | cons o t =>
    obtain ⟨x', R', h1, h2, h3⟩ := h
    cases h1
    exact ⟨y, R, rfl, hy.trans h2, h3⟩
set_option maxRecDepth 20000 in
theorem LI.ne {l : List Nat} {F : SS} (h : LI C stk s e Fs rs l F) : ∃ x R, F = x :: R := by
  cases l with
  | nil => obtain ⟨x, h1, _⟩ := h; exact ⟨x, [], h1⟩
  | cons o t => obtain ⟨x, R, h1, _⟩ := h; exact ⟨x, R, h1⟩
set_option maxRecDepth 20000 in
theorem LI.len : ∀ {l : List Nat} {F : SS}, LI C stk s e Fs rs l F → F.length = l.length + 1
  | [], F, h => by obtain ⟨x, h1, _⟩ := h; rw [h1]; rfl
  | o :: t, F, h => by
    obtain ⟨x, R, h1, h2, h3, h4, h5, h6, h7, h8⟩ := h
    rw [h1, List.length_cons, List.length_cons, LI.len h8]
set_option maxRecDepth 20000 in
theorem LI.get : ∀ {l : List Nat} {F : SS} {k o : Nat}, LI C stk s e Fs rs l F → l[k]? = some o → ∃ x : Fr, F[k]? = some x ∧ x.2.2 = hdO C o ∧ F.drop (k + 1) = (Fs (o + 1)).tail ∧ l.drop (k + 1) = stk o ∧ s ≤ o ∧ o < e ∧ isOp (C.ops o) ∧ LI C stk s e Fs rs (stk o) (F.drop (k + 1))
  | [], F, k, o, h, hk => by cases hk
  | o' :: t, F, 0, o, h, hk => by
    obtain ⟨x, R, h1, h2, h3, h4, h5, h6, h7, h8⟩ := h
    cases hk
    subst h1
    exact ⟨x, rfl, h2, h3, h4, h5, h6, h7, h4 ▸ h8⟩
  | o' :: t, F, k + 1, o, h, hk => by
    obtain ⟨x, R, h1, h2, h3, h4, h5, h6, h7, h8⟩ := h
    subst h1
    exact LI.get (l := t) (F := R) (k := k) h8 hk
set_option maxRecDepth 20000 in
theorem LI.bot : ∀ {l : List Nat} {F : SS}, LI C stk s e Fs rs l F → ∃ x : Fr, F[l.length]? = some x ∧ x.2.2 = (rs, rs)
  | [], F, h => by obtain ⟨x, h1, h2⟩ := h; subst h1; exact ⟨x, rfl, h2⟩
  | o :: t, F, h => by
    obtain ⟨x, R, h1, h2, h3, h4, h5, h6, h7, h8⟩ := h
    subst h1
    exact LI.bot (l := t) (F := R) h8
variable {M1 : KM1} {Mp : KMp} {M3 : KM3} {Mj : KMj} {Ml : KMl} {M5 : KM5} {M6 : KM6} {g : Nat} {ct : KCt}
set_option maxRecDepth 20000 in
theorem LI.all (hSK : SK C.ops C.ends C.elses s e stk) (hV : VFn M1 Mp M3 Mj Ml M5 M6 g C stk s e Fs ct) : ∀ (d k : Nat), k = s + d → k ≤ e → LI C stk s e Fs (res M1 M3 g) (stk k) (Fs k) := by
  intro d
  induction d with
  | zero =>
    intro k hk he
    have hk2 : k = s := by omega
    rw [hk2, hSK.1, hV.1]
    exact ⟨_, rfl, rfl⟩
  | succ d ih =>
    intro k hk he
    obtain ⟨k, rfl⟩ : ∃ q, k = q + 1 := ⟨k - 1, by omega⟩
    have hI := ih k (by omega) (by omega)
    have hS := hSK.2.1 k (by omega) (by omega)
    obtain ⟨x, R, h1, h2⟩ := stV_inv (hV.2.1 k (by omega) (by omega))
    rw [h1] at hI
    rcases h2 with ⟨c, y, e1, e2⟩ | ⟨c, w, R', e1, e2, _⟩ | ⟨c, e2⟩ | ⟨c1, c2, c3, y, e1, e2⟩
    · rw [hS.1 c, e2]
      exact ⟨_, _, rfl, rfl, by rw [e2]; rfl, rfl, by omega, by omega, c, hI.hd (by rw [e1])⟩
    · obtain ⟨o, t, f1, f2, f3, f4, f5⟩ := hS.2.1 c
      rw [f1] at hI
      obtain ⟨x', R2, g1, g2, g3, g4, g5, g6, g7, g8⟩ := hI
      cases g1
      rw [f2, e2]
      rw [e1] at g8
      exact g8.hd (by rw [push_snd])
    · obtain ⟨o, t, f1, f2, f3, f4, f5⟩ := hS.2.2.1 c
      rw [f2, e2]
      exact hI.hd rfl
    · rw [hS.2.2.2.1 c1 c2 c3, e2]
      exact hI.hd e1
set_option maxRecDepth 20000 in
/-- behind the end of a block -/
theorem at_end (hSK : SK C.ops C.ends C.elses s e stk) (hste : stk e = []) (hV : VFn M1 Mp M3 Mj Ml M5 M6 g C stk s e Fs ct) {o : Nat} (h1 : s ≤ o) (h2 : o < e) (h3 : isOp (C.ops o)) : ∃ (E : Nat) (w : Fr) (R : SS), C.ends o = E ∧ o < E ∧ E < e ∧ C.ops E = 11 ∧ stk E = o :: stk o ∧ stk (E + 1) = stk o ∧ (Fs (o + 1)).tail = w :: R ∧ Fs (E + 1) = pushA (uT (C.extras o)) w :: R ∧ (C.ops o = 4 → C.elses o < 0 → uT (C.extras o) = 0) := by
  obtain ⟨a1, a2⟩ := hSK.2.2.1 o h1 h2 h3
  obtain ⟨E, b1, b2, b3, b4, b5, b6⟩ := a2 (by rw [hste]; exact List.not_mem_nil)
  have hI := LI.all hSK hV (E - s) E (by omega) (by omega)
  have hS := hSK.2.1 E (by omega) (by omega)
  obtain ⟨x, R, h4, h5⟩ := stV_inv (hV.2.1 E (by omega) (by omega))
  rw [b5, h4] at hI
  obtain ⟨x', R2, g1, g2, g3, g4, g5, g6, g7, g8⟩ := hI
  cases g1
  obtain ⟨o', t, f1, f2, f3, f4, f5⟩ := hS.2.1 b4
  rw [b5] at f1
  cases f1
  rcases h5 with ⟨c, y, e1, e2⟩ | ⟨c, w, R', e1, e2, e3⟩ | ⟨c, e2⟩ | ⟨c1, c2, c3, y, e1, e2⟩
  · omega
  · refine ⟨E, w, R', b1, b2, b3, b4, b5, f2, g3.symm.trans e1, ?_, fun q1 q2 => ?_⟩
    · rw [e2, g2]
    · have := e3 (by rw [b5]; exact ⟨List.cons_ne_nil _ _, q1, q2⟩)
      rwa [g2] at this
  · omega
  · exact absurd b4 c2
set_option maxRecDepth 20000 in
/-- behind an else -/
theorem at_else (hSK : SK C.ops C.ends C.elses s e stk) (hste : stk e = []) (hV : VFn M1 Mp M3 Mj Ml M5 M6 g C stk s e Fs ct) {o : Nat} (h1 : s ≤ o) (h2 : o < e) (h3 : C.ops o = 4) (h4 : ¬ C.elses o < 0) : ∃ X : Nat, C.elses o = X ∧ o < X ∧ X < e ∧ C.ops X = 5 ∧ stk X = o :: stk o ∧ stk (X + 1) = o :: stk o ∧ C.ends X = C.ends o ∧ Fs (X + 1) = ([], false, hdO C o) :: (Fs (o + 1)).tail := by
  have hop : isOp (C.ops o) := by omega
  obtain ⟨a1, a2⟩ := hSK.2.2.1 o h1 h2 hop
  obtain ⟨E, b1, b2, b3, b4, b5, b6⟩ := a2 (by rw [hste]; exact List.not_mem_nil)
  rcases a1 with a1 | ⟨X, c1, c2, c3, c4, c5, c6⟩
  · omega
  have hI := LI.all hSK hV (X - s) X (by omega) (by omega)
  have hS := hSK.2.1 X (by omega) (by omega)
  obtain ⟨x, R, h4, h5⟩ := stV_inv (hV.2.1 X (by omega) (by omega))
  rw [c6, h4] at hI
  obtain ⟨x', R2, g1, g2, g3, g4, g5, g6, g7, g8⟩ := hI
  cases g1
  obtain ⟨o', t, f1, f2, f3, f4, f5⟩ := hS.2.2.1 c4
  rcases h5 with ⟨c, y, e1, e2⟩ | ⟨c, w, R', e1, e2, e3⟩ | ⟨c, e2⟩ | ⟨q1, q2, q3, y, e1, e2⟩
  · omega
  · omega
  · exact ⟨X, c1, c2, c3, c4, c6, f2.trans c6, (b6 X c1).2.trans b1.symm, by rw [e2, g2, g3]⟩
  · exact absurd c4 q3
end LIS
/-! frames that can be reached -/
/-- a block that can be reached, with types that are known -/
abbrev lv (x : Fr) : Prop := x.2.1 = false ∧ ∀ t, t ∈ x.1 → t = 127 ∨ t = 126
def Live (F : SS) : Prop := ∀ x, x ∈ F → lv x
set_option maxRecDepth 20000 in
theorem Live.cons {x : Fr} {R : SS} : Live (x :: R) ↔ lv x ∧ Live R := ⟨fun h => ⟨h x List.mem_cons_self, fun y hy => h y (List.mem_cons_of_mem _ hy)⟩, fun h y hy => by
  rcases List.mem_cons.mp hy with q | q
  · rw [q]; exact h.1
  · exact h.2 y q⟩
set_option maxRecDepth 20000 in
theorem Live.drop {F : SS} (h : Live F) (k : Nat) : Live (F.drop k) := fun x hx => h x (List.mem_of_mem_drop hx)
set_option maxRecDepth 20000 in
theorem popA_live {w : Int} {x : Fr} {y : Int × Fr} (h : popA w x = some y) (hx : lv x) : x.1 = y.1 :: y.2.1 ∧ (0 < w → y.1 = w) ∧ (y.1 = 127 ∨ y.1 = 126) ∧ lv y.2 ∧ y.2.2 = x.2 := by
  obtain ⟨vs, b⟩ := x
  unfold popA at h
  cases vs with
  | nil =>
    dsimp only at h
    rw [if_neg (by rw [hx.1]; exact Bool.false_ne_true)] at h; cases h
  | cons t r =>
    dsimp only at h
    obtain ⟨c, h⟩ := ite_some h
    have ht := hx.2 t List.mem_cons_self
    rw [if_neg (show ¬ (t = -1 ∧ 0 < w) by omega)] at h
    cases h
    exact ⟨rfl, fun q => by show t = w; omega, ht, ⟨hx.1, fun u hu => hx.2 u (List.mem_cons_of_mem _ hu)⟩, rfl⟩
set_option maxRecDepth 20000 in
theorem popO_live {w : Int} {x y : Fr} (h : popO w x = some y) (hw : Ty0 w) (hx : lv x) : x.1 = (if w = 0 then y.1 else w :: y.1) ∧ lv y ∧ y.2 = x.2 := by
  unfold popO at h
  by_cases c : w = 0
  · rw [if_pos c] at h; cases h; exact ⟨by rw [if_pos c], hx, rfl⟩
  · rw [if_neg c] at h
    obtain ⟨z, e1, e2⟩ := omap_some h
    obtain ⟨k1, k2, k3, k4, k5⟩ := popA_live e1 hx
    subst e2
    rw [if_neg c]
    exact ⟨by rw [k1, k2 (by omega)], k4, k5⟩
set_option maxRecDepth 20000 in
theorem pushA_live {t : Int} {x : Fr} (ht : Ty0 t) (hx : lv x) : lv (pushA t x) ∧ (pushA t x).1 = (if t = 0 then x.1 else t :: x.1) := by
  unfold pushA
  by_cases c : t = 0
  · rw [if_pos c, if_pos c]; exact ⟨hx, rfl⟩
  · rw [if_neg c, if_neg c]
    refine ⟨⟨hx.1, fun u hu => ?_⟩, rfl⟩
    rcases List.mem_cons.mp hu with q | q
    · rw [q]; omega
    · exact hx.2 u q
/-- values on the stack, each as its type asks -/
def VT (st : Nat → Int64) (b : Nat) : List Int → Prop
  | [] => True
  | t :: r => (t = 127 → R32 (st (b + r.length)).toInt) ∧ VT st b r
set_option maxRecDepth 20000 in
theorem VT.cg {st st' : Nat → Int64} {b : Nat} : ∀ (l : List Int), (∀ k, k < b + l.length → b ≤ k → st' k = st k) → VT st b l → VT st' b l
  | [], _, _ => trivial
  | t :: r, h, ⟨h1, h2⟩ => ⟨fun q => by rw [h _ (by rw [List.length_cons]; omega) (by omega)]; exact h1 q, VT.cg r (fun k hk => h k (by rw [List.length_cons]; omega)) h2⟩
set_option maxRecDepth 20000 in
theorem VT.app {st : Nat → Int64} {b : Nat} : ∀ (l r : List Int), VT st b (l ++ r) → VT st b r
  | [], _, h => h
  | _ :: l, r, h => VT.app l r h.2
set_option maxRecDepth 20000 in
theorem VT.push {st : Nat → Int64} {b : Nat} {l : List Int} {t : Int} {v : Int64} (h : VT st b l) (hv : t = 127 → R32 v.toInt) : VT (vp_updL st (b + l.length) v) b (t :: l) :=
  ⟨fun q => by rw [show vp_updL st (b + l.length) v (b + l.length) = v from updL_s _ _ _]; exact hv q, VT.cg l (fun k hk _ => updL_n (by omega)) h⟩

/-! RUN: the two machines' frames -/
/-- of every function: its first and last instruction, their places, the open blocks, the types -/
abbrev SP : Type := (Nat → Nat) × (Nat → Nat) × (Nat → Nat → Int) × (Nat → Nat → List Nat) × (Nat → Nat → SS)
abbrev SP.s (X : SP) : Nat → Nat := X.1
abbrev SP.e (X : SP) : Nat → Nat := X.2.1
abbrev SP.p (X : SP) : Nat → Nat → Int := X.2.2.1
abbrev SP.k (X : SP) : Nat → Nat → List Nat := X.2.2.2.1
abbrev SP.F (X : SP) : Nat → Nat → SS := X.2.2.2.2
/-- how many parameters and locals -/
abbrev nv (M1 : KM1) (M3 : KM3) (Mj : KMj) (g : Nat) : Nat := (pcn M1 M3 g + Mj.localCount g).toNat
/-- parameters and locals as their types ask -/
def VV (M1 : KM1) (Mp : KMp) (M3 : KM3) (Mj : KMj) (Ml : KMl) (st : Nat → Int64) (b g : Nat) : Prop := ∀ k : Nat, locA M1 Mp M3 Mj Ml g k = some 127 → R32 (st (b + k)).toInt
set_option maxRecDepth 20000 in
theorem locA_lt {M1 : KM1} {Mp : KMp} {M3 : KM3} {Mj : KMj} {Ml : KMl} {g k : Nat} {t : Int} (h : locA M1 Mp M3 Mj Ml g k = some t) : k < nv M1 M3 Mj g := by
  unfold locA at h
  have := (ite_some h).1
  show k < (pcn M1 M3 g + Mj.localCount g).toNat
  omega
/-- the labels of one call -/
def LB (X : SP) (g base : Nat) (rl : KRl) (lt : Nat) (l : List Nat) : Prop := ∀ k o, l[k]? = some o → rl.labelAt (lt - 1 - k) = X.p g o ∧ rl.labelHeight (lt - 1 - k) = ((base + tot (X.F g (o + 1)) : Nat) : Int)
/-- calls that are under way, the innermost first: function, next instruction, base -/
def FI (X : SP) (M1 : KM1) (Mp : KMp) (M3 : KM3) (Mj : KMj) (Ml : KMl) (af : KAf) (rr : KRr) (rl : KRl) (st : Nat → Int64) : List (Nat × Nat × Nat) → Int → Nat → Nat → Prop
  | [], _, lt, h => lt = 0 ∧ h = 0
  | a :: R, pend, lt, h => (a.1 : Int) < M3.functions ∧ X.s a.1 ≤ a.2.1 ∧ a.2.1 ≤ X.e a.1 ∧ af.functions R.length = a.1 ∧ rr.frameFunction R.length = a.1 ∧ af.bases R.length = a.2.2 ∧ rr.frameBase R.length = a.2.2 ∧ (∀ c R', R = c :: R' → af.returns R.length = c.2.1 ∧ rr.frameReturn R.length = X.p c.1 c.2.1) ∧ VV M1 Mp M3 Mj Ml st a.2.2 a.1 ∧
    (∃ (x : Fr) (R0 : SS), X.F a.1 a.2.1 = pushA pend x :: R0 ∧ Live (x :: R0) ∧ h = a.2.2 + nv M1 M3 Mj a.1 + tot (x :: R0) ∧ VT st (a.2.2 + nv M1 M3 Mj a.1) (flat (x :: R0))) ∧
    ∃ lb : Nat, rr.frameLabels R.length = lb ∧ rl.labelAt lb = -1 ∧ lt = lb + 1 + (X.k a.1 a.2.1).length ∧ LB X a.1 (a.2.2 + nv M1 M3 Mj a.1) rl lt (X.k a.1 a.2.1) ∧ FI X M1 Mp M3 Mj Ml af rr rl st R (res M1 M3 a.1) lb a.2.2
section FIS
variable {X : SP} {M1 : KM1} {Mp : KMp} {M3 : KM3} {Mj : KMj} {Ml : KMl} {af af' : KAf} {rr rr' : KRr} {rl rl' : KRl} {st st' : Nat → Int64}
set_option maxRecDepth 20000 in
theorem VV.cg {b g : Nat} (h : VV M1 Mp M3 Mj Ml st b g) (hs : ∀ k, k < b + nv M1 M3 Mj g → st' k = st k) : VV M1 Mp M3 Mj Ml st' b g := fun k hk => by
  rw [hs (b + k) (by have := locA_lt hk; omega)]; exact h k hk
set_option maxRecDepth 20000 in
theorem LB.cg {g base lt : Nat} {l : List Nat} (h : LB X g base rl lt l) (hl : l.length < lt) (hs : ∀ k, k < lt → rl'.labelAt k = rl.labelAt k ∧ rl'.labelHeight k = rl.labelHeight k) : LB X g base rl' lt l := fun k o hk => by
  obtain ⟨h1, h2⟩ := h k o hk
  obtain ⟨h3, h4⟩ := hs (lt - 1 - k) (by omega)
  exact ⟨h3.trans h1, h4.trans h2⟩
set_option maxRecDepth 20000 in
theorem FI.cg : ∀ {L : List (Nat × Nat × Nat)} {pend : Int} {lt h : Nat}, FI X M1 Mp M3 Mj Ml af rr rl st L pend lt h → (∀ k, k < L.length → af'.functions k = af.functions k ∧ af'.bases k = af.bases k ∧ af'.returns k = af.returns k ∧ rr'.frameFunction k = rr.frameFunction k ∧ rr'.frameReturn k = rr.frameReturn k ∧ rr'.frameBase k = rr.frameBase k ∧ rr'.frameLabels k = rr.frameLabels k) → (∀ k, k < lt → rl'.labelAt k = rl.labelAt k ∧ rl'.labelHeight k = rl.labelHeight k) → (∀ k, k < h → st' k = st k) → FI X M1 Mp M3 Mj Ml af' rr' rl' st' L pend lt h
  | [], _, _, _, h, _, _, _ => h
  | a :: R, pend, lt, h, hF, h1, h2, h3 => by
    obtain ⟨a1, a2, a3, a4, a5, a6, a7, a8, a9, ⟨x, R0, b1, b2, b3, b4⟩, lb, c1, c2, c3, c4, c5⟩ := hF
    obtain ⟨k1, k2, k3, k4, k5, k6, k7⟩ := h1 R.length (by rw [List.length_cons]; omega)
    refine ⟨a1, a2, a3, k1.trans a4, k4.trans a5, k2.trans a6, k6.trans a7, fun c R' q => ?_, a9.cg (fun k hk => h3 k (by omega)), ⟨x, R0, b1, b2, b3, VT.cg _ (fun k hk _ => h3 k (by show k < h; rw [b3]; exact hk)) b4⟩, lb, k7.trans c1, (h2 lb (by omega)).1.trans c2, c3, c4.cg (by omega) h2, FI.cg c5 (fun k hk => h1 k (by rw [List.length_cons]; omega)) (fun k hk => h2 k (by omega)) (fun k hk => h3 k (by omega))⟩
    obtain ⟨q1, q2⟩ := a8 c R' q
    exact ⟨k3.trans q1, k5.trans q2⟩
set_option maxRecDepth 20000 in
/-- the innermost call goes on: other values, another instruction, the same open blocks -/
theorem FI.top {g i i' b lt h : Nat} {R : List (Nat × Nat × Nat)} {y : Fr} {R1 : SS} (e : X.F g i' = y :: R1) (hF : FI X M1 Mp M3 Mj Ml af rr rl st ((g, i, b) :: R) 0 lt h) (h1 : X.s g ≤ i') (h2 : i' ≤ X.e g) (hk : X.k g i' = X.k g i) (hL : Live (X.F g i')) (hs : ∀ k, k < b → st' k = st k) (hV : VV M1 Mp M3 Mj Ml st' b g) (hT : VT st' (b + nv M1 M3 Mj g) (flat (X.F g i'))) : FI X M1 Mp M3 Mj Ml af rr rl st' ((g, i', b) :: R) 0 lt (b + nv M1 M3 Mj g + tot (X.F g i')) := by
  obtain ⟨a1, a2, a3, a4, a5, a6, a7, a8, a9, ⟨x, R0, b1, b2, b3, b4⟩, lb, c1, c2, c3, c4, c5⟩ := hF
  dsimp only at *
  exact ⟨a1, h1, h2, a4, a5, a6, a7, a8, hV, ⟨y, R1, by show X.F g i' = pushA 0 y :: R1; rw [e]; rfl, by rw [← e]; exact hL, by rw [← e], by rw [← e]; exact hT⟩, lb, c1, c2, by show lt = lb + 1 + (X.k g i').length; rw [hk]; exact c3, by show LB X g _ rl lt (X.k g i'); rw [hk]; exact c4, FI.cg c5 (fun k _ => ⟨rfl, rfl, rfl, rfl, rfl, rfl, rfl⟩) (fun k _ => ⟨rfl, rfl⟩) hs⟩
set_option maxRecDepth 20000 in
/-- the innermost call's values -/
theorem FI.vals {g i b lt h : Nat} {R : List (Nat × Nat × Nat)} (hF : FI X M1 Mp M3 Mj Ml af rr rl st ((g, i, b) :: R) 0 lt h) : ∃ x R0, X.F g i = x :: R0 ∧ Live (X.F g i) ∧ h = b + nv M1 M3 Mj g + tot (X.F g i) ∧ VT st (b + nv M1 M3 Mj g) (flat (X.F g i)) := by
  obtain ⟨a1, a2, a3, a4, a5, a6, a7, a8, a9, ⟨x, R0, b1, b2, b3, b4⟩, _⟩ := hF
  have e : X.F g i = x :: R0 := b1
  exact ⟨x, R0, e, by rw [e]; exact b2, by rw [e]; exact b3, by rw [e]; exact b4⟩
set_option maxRecDepth 20000 in
/-- the innermost call goes on: some values taken -/
theorem FI.pop {g i i' b lt h : Nat} {R : List (Nat × Nat × Nat)} {x y : Fr} {R0 : SS} {l : List Int} (hF : FI X M1 Mp M3 Mj Ml af rr rl st ((g, i, b) :: R) 0 lt h) (e : X.F g i = x :: R0) (h1 : X.s g ≤ i') (h2 : i' ≤ X.e g) (hk : X.k g i' = X.k g i) (e' : X.F g i' = y :: R0) (hy : lv y) (hl : x.1 = l ++ y.1) : FI X M1 Mp M3 Mj Ml af rr rl st ((g, i', b) :: R) 0 lt (h - l.length) := by
  obtain ⟨x', R', q1, q2, q3, q4⟩ := hF.vals
  rw [e] at q1 q2 q3 q4
  have hfl : flat (x :: R0) = l ++ flat (y :: R0) := by show x.1 ++ flat R0 = l ++ (y.1 ++ flat R0); rw [hl, List.append_assoc]
  have ht : tot (x :: R0) = l.length + tot (y :: R0) := by show (flat (x :: R0)).length = _; rw [hfl, List.length_append]; rfl
  have hh : h - l.length = b + nv M1 M3 Mj g + tot (X.F g i') := by rw [e']; omega
  rw [hh]
  refine FI.top e' hF h1 h2 hk (by rw [e']; exact Live.cons.mpr ⟨hy, (Live.cons.mp q2).2⟩) (fun _ _ => rfl) hF.2.2.2.2.2.2.2.2.1 ?_
  rw [e']
  rw [hfl] at q4
  exact VT.app l _ q4
set_option maxRecDepth 20000 in
/-- the innermost call goes on: some values taken, one put -/
theorem FI.pp {g i i' b lt h : Nat} {R : List (Nat × Nat × Nat)} {x y : Fr} {R0 : SS} {l r : List Int} {t : Int} {v : Int64} (hF : FI X M1 Mp M3 Mj Ml af rr rl st ((g, i, b) :: R) 0 lt h) (e : X.F g i = x :: R0) (h1 : X.s g ≤ i') (h2 : i' ≤ X.e g) (hk : X.k g i' = X.k g i) (e' : X.F g i' = y :: R0) (hy : lv y) (hl : x.1 = l ++ r) (hr : y.1 = t :: r) (hv : t = 127 → R32 v.toInt) : FI X M1 Mp M3 Mj Ml af rr rl (vp_updL st (h - l.length) v) ((g, i', b) :: R) 0 lt (h - l.length + 1) := by
  obtain ⟨x', R', q1, q2, q3, q4⟩ := hF.vals
  rw [e] at q1 q2 q3 q4
  have hfl : flat (x :: R0) = l ++ (r ++ flat R0) := by show x.1 ++ flat R0 = _; rw [hl, List.append_assoc]
  have ht : tot (x :: R0) = l.length + (r ++ flat R0).length := by show (flat (x :: R0)).length = _; rw [hfl, List.length_append]
  have hf' : flat (y :: R0) = t :: (r ++ flat R0) := by show y.1 ++ flat R0 = _; rw [hr, List.cons_append]
  have ht' : tot (y :: R0) = (r ++ flat R0).length + 1 := by show (flat (y :: R0)).length = _; rw [hf', List.length_cons]
  have hh : h - l.length + 1 = b + nv M1 M3 Mj g + tot (X.F g i') := by rw [e']; omega
  have hp : h - l.length = b + nv M1 M3 Mj g + (r ++ flat R0).length := by omega
  rw [hh]
  refine FI.top e' hF h1 h2 hk (by rw [e']; exact Live.cons.mpr ⟨hy, (Live.cons.mp q2).2⟩) (fun k hk => updL_n (by omega)) (VV.cg hF.2.2.2.2.2.2.2.2.1 (fun k hk => updL_n (by omega))) ?_
  rw [e', hf', hp]
  rw [hfl] at q4
  exact VT.push (VT.app l _ q4) hv
end FIS
/-- all that is known of a good function, for both machines -/
def GF (f : Nat → Int32) (n : Int) (C : KCo) (M : KMe) (M1 : KM1) (Mp : KMp) (M3 : KM3) (Wj : KWj) (Mj : KMj) (Ml : KMl) (M5 : KM5) (M6 : KM6) (ct : KCt) (X : SP) (g : Nat) : Prop := Wj.starts g = X.s g ∧ X.s g ≤ X.e g ∧ X.e g < 2000 ∧ (X.e g : Int) < C.size ∧ X.p g (X.s g) = Mj.codeAt g ∧ X.p g (X.e g) + 1 ≤ n ∧ 0 ≤ X.p g (X.e g) ∧ PD f C.ops C.extras C.labels C.values C.labelCount (X.s g) (X.e g) (X.p g) ∧ SK C.ops C.ends C.elses (X.s g) (X.e g) (X.k g) ∧ X.k g (X.e g) = [] ∧ ME C.ops C.ends C.elses (X.s g) (X.e g) (X.p g) (X.k g) M.endOf M.elseOf ∧ C.ops (X.e g) = 256 ∧ by8 (f (X.p g (X.e g)).toNat) = 11 ∧ LOk Wj Mj Ml g ∧ VFn M1 Mp M3 Mj Ml M5 M6 g C (X.k g) (X.s g) (X.e g) (X.F g) ct
set_option maxRecDepth 20000 in
theorem gf_all {f : Nat → Int32} {n : Int} {C : KCo} {M : KMe} {M1 : KM1} {Mp : KMp} {M3 : KM3} {Wj : KWj} {Mj : KMj} {Ml : KMl} {M5 : KM5} {M6 : KM6} {ct : KCt} {T : Int} {ee : Nat → Nat} {l0 l1 : Nat → Int} (h : ∀ g : Nat, (g : Int) < T → FVd f C M M1 Mp M3 Wj Mj Ml M5 M6 (ee g) (l0 g) (l1 g) g ct) (hn : ∀ g : Nat, (g : Int) < T → Mj.codeEnd g ≤ n) : ∃ X : SP, ∀ g : Nat, (g : Int) < T → GF f n C M M1 Mp M3 Wj Mj Ml M5 M6 ct X g := by
  have k : ∀ g : Nat, ∃ y : Nat × Nat × (Nat → Int) × (Nat → List Nat) × (Nat → SS), (g : Int) < T → GF f n C M M1 Mp M3 Wj Mj Ml M5 M6 ct (fun _ => y.1, fun _ => y.2.1, fun _ => y.2.2.1, fun _ => y.2.2.2.1, fun _ => y.2.2.2.2) g := fun g => by
    by_cases c : (g : Int) < T
    · obtain ⟨s, pos, stk, Fs, a1, a2, a3, a4, a5, a6, a7, a8, a9, a10, a11, a12, a13, a14, a15, a16, a17⟩ := h g c
      exact ⟨(s, ee g, pos, stk, Fs), fun _ => ⟨a1, a2, a3, a4, a5, by have := hn g c; show pos (ee g) + 1 ≤ n; omega, a8, a9, a10, a11, a12, a14, a15, a16, a17⟩⟩
    · exact ⟨(0, 0, fun _ => 0, fun _ => [], fun _ => []), fun q => absurd q c⟩
  obtain ⟨Y, hY⟩ := Classical.axiomOfChoice k
  exact ⟨(fun g => (Y g).1, fun g => (Y g).2.1, fun g => (Y g).2.2.1, fun g => (Y g).2.2.2.1, fun g => (Y g).2.2.2.2), fun g hg => hY g hg⟩

/-! RUN: one step of both machines -/
/-- the two memories and globals -/
def MR (M6 : KM6) (mb : KMb) (ag : KAg) (my : KMy) (rg : KRg) : Prop := (∀ k, k < 131072 → mb.bytes k = my.memory k ∧ -128 ≤ (my.memory k).toInt ∧ (my.memory k).toInt ≤ 127) ∧ ag.pages = rg.pages ∧ 0 ≤ rg.pages ∧ rg.pages ≤ 2 ∧ (∀ k, k < 20 → ag.globals k = rg.globals k) ∧ (∀ k : Nat, (k : Int) < M6.globals → M6.globalTypes k = 127 → R32 (rg.globals k).toInt) ∧ (ag.written = false → ∀ k, k < 131072 → mb.bytes k = 0)
/-- the two machines between two instructions -/
def StI (X : SP) (M1 : KM1) (Mp : KMp) (M3 : KM3) (Mj : KMj) (Ml : KMl) (g0 g i b : Nat) (R : List (Nat × Nat × Nat)) (lt h : Nat) (af : KAf) (rr : KRr) (rl : KRl) (st vs : Nat → Int64) : Prop := FI X M1 Mp M3 Mj Ml af rr rl st ((g, i, b) :: R) 0 lt h ∧ af.depth = ((R.length + 1 : Nat) : Int) ∧ af.variables = b ∧ af.values = ((b + nv M1 M3 Mj g : Nat) : Int) ∧ rr.frames = ((R.length + 1 : Nat) : Int) ∧ rl.labelTop = lt ∧ R.length < 100 ∧ h ≤ 12096 ∧ (∀ k, k < h → vs k = st k) ∧ ((g, i, b) :: R).getLast?.map Prod.fst = some g0
/-- both go on -/
def RI (X : SP) (M1 : KM1) (Mp : KMp) (M3 : KM3) (Mj : KMj) (Ml : KMl) (n : Int) (g0 : Nat) (ma : KMa) (as : KAs) (af : KAf) (mc : KMc) (rs : KRs) (rr : KRr) (rl : KRl) (lt : Nat) : Prop := ∃ (g i b : Nat) (R : List (Nat × Nat × Nat)) (h : Nat), StI X M1 Mp M3 Mj Ml g0 g i b R lt h af rr rl as.stack rs.values ∧ ma.reason = 0 ∧ ma.next = i ∧ as.height = h ∧ mc = KMc.mk (X.p g i) n ∧ rs.valueTop = h
/-- what a step of both gives: both go on, both are at the end, both stop for the same reason -/
def SR (X : SP) (M1 : KM1) (Mp : KMp) (M3 : KM3) (Mj : KMj) (Ml : KMl) (M6 : KM6) (n : Int) (g0 : Nat) (sp : Int) (lt : Nat) (r : KRf) (Fc : Out Empty (KMb × KAg × KMa × KAs × KAf)) (Fr : Out (KRf × KMc × KMy × KRg × KRs × KRr × KRl) (KRf × KMc × KMy × KRg × KRs × KRr × KRl × Bool)) : Prop :=
  (∃ (mb : KMb) (ag : KAg) (ma : KMa) (as : KAs) (af : KAf) (mc : KMc) (my : KMy) (rg : KRg) (rs : KRs) (rr : KRr) (rl : KRl) (lt' : Nat), Fc = .ret (mb, ag, ma, as, af) ∧ Fr = .ret (r, mc, my, rg, rs, rr, rl, true) ∧ ma.steps = sp ∧ MR M6 mb ag my rg ∧ RI X M1 Mp M3 Mj Ml n g0 ma as af mc rs rr rl lt' ∧ lt' ≤ lt + 1) ∨
  (∃ (mb : KMb) (ag : KAg) (ma : KMa) (as : KAs) (af : KAf) (mc : KMc) (my : KMy) (rg : KRg) (rs : KRs) (rr : KRr) (rl : KRl), Fc = .ret (mb, ag, ma, as, af) ∧ Fr = .ret (r, mc, my, rg, rs, rr, rl, false) ∧ ma.steps = sp ∧ MR M6 mb ag my rg ∧ ma.reason = 0 ∧ af.depth = 0 ∧ (res M1 M3 g0 ≠ 0 → as.stack 0 = rs.values 0)) ∨
  (∃ (mb : KMb) (ag : KAg) (ma : KMa) (as : KAs) (af : KAf) (t : KRf × KMc × KMy × KRg × KRs × KRr × KRl), Fc = .ret (mb, ag, ma, as, af) ∧ Fr = .thr t ∧ ma.steps = sp ∧ ma.reason = t.1 ∧ t.1 ≠ 0 ∧ MR M6 mb ag t.2.2.1 t.2.2.2.1)
/-- what stays the same in a run -/
def CX (f : Nat → Int32) (n : Int) (C : KCo) (M : KMe) (W1 : KW1) (W3 : KW3) (Wj : KWj) (W5 : KW5) (M1 : KM1) (Mp : KMp) (M3 : KM3) (Mj : KMj) (Ml : KMl) (M5 : KM5) (M6 : KM6) (ct : KCt) (X : SP) : Prop := MOk W1 W3 M1 Mp M3 ∧ R5 W5 M5 ∧ memG W5 = true ∧ (0 ≤ M6.globals ∧ M6.globals ≤ 20 ∧ ∀ k : Nat, (k : Int) < M6.globals → M6.globalTypes k = 127 ∨ M6.globalTypes k = 126) ∧ n ≤ 2000 ∧ C.labelCount ≤ 2000 ∧ (∀ g : Nat, (g : Int) < M3.functions → GF f n C M M1 Mp M3 Wj Mj Ml M5 M6 ct X g) ∧ BB f
section PSH
variable {ma : KMa} {st vs : Nat → Int64} {h : Nat} {v : Int64} {r : KRf}
set_option maxRecDepth 20000 in
theorem cm_push : f_Ma_push ma (KAs.mk st h) v = if h < 12096 then .ret (ma, KAs.mk (vp_updL st h v) ((h + 1 : Nat) : Int)) else .ret (KMa.mk ma.steps 7 ma.next, KAs.mk st h) := by
  unfold f_Ma_push
  by_cases c : h < 12096
  · rw [if_pos (show ((KAs.mk st h).height : Int) < 12096 by show (h : Int) < 12096; omega), if_pos (show (0 : Int) ≤ (KAs.mk st h).height ∧ (KAs.mk st h).height < 12096 by show (0 : Int) ≤ h ∧ (h : Int) < 12096; omega), if_pos (show R32 ((KAs.mk st h).height + 1) by show R32 ((h : Int) + 1); omega), if_pos c]
    rfl
  · rw [if_neg (show ¬ ((KAs.mk st h).height : Int) < 12096 by show ¬ (h : Int) < 12096; omega), if_neg c]
set_option maxRecDepth 20000 in
theorem cm_pop (h0 : 0 < h) (h1 : h ≤ 12096) : f_Ma_pop (KAs.mk st h) = .ret (KAs.mk st ((h - 1 : Nat) : Int), st (h - 1)) := by
  unfold f_Ma_pop
  have e : (KAs.mk st (h : Int)).height - 1 = ((h - 1 : Nat) : Int) := by show (h : Int) - 1 = _; omega
  rw [e, if_pos (by omega), if_pos (by omega), Int.toNat_natCast]
set_option maxRecDepth 20000 in
theorem rm_push (h1 : h ≤ 12096) : f_Mo_pushValue r (KRs.mk vs h) v = if h < 12096 then .ret (r, KRs.mk (vp_updL vs h v) ((h + 1 : Nat) : Int)) else .thr (7, KRs.mk vs h) := by
  unfold f_Mo_pushValue
  simp only [jp_ite]
  by_cases c : h < 12096
  · rw [if_neg (show ¬ (KRs.mk vs (h : Int)).valueTop = 12096 by show ¬ (h : Int) = 12096; omega), if_pos c]
    show obind2 (f_Mo_ends r false 7) _ _ = _
    rw [show f_Mo_ends r false 7 = .ret r from rfl, obind2_ret, if_pos (show (0 : Int) ≤ (KRs.mk vs h).valueTop ∧ (KRs.mk vs h).valueTop < 12097 by show (0 : Int) ≤ h ∧ (h : Int) < 12097; omega), if_pos (show R32 ((KRs.mk vs h).valueTop + 1) by show R32 ((h : Int) + 1); omega)]
    rfl
  · rw [if_pos (show (KRs.mk vs (h : Int)).valueTop = 12096 by show (h : Int) = 12096; omega), if_neg c]
    rfl
set_option maxRecDepth 20000 in
theorem rm_pop (h0 : 0 < h) (h1 : h ≤ 12096) : f_Mo_popValue (KRs.mk vs h) = .ret (KRs.mk vs ((h - 1 : Nat) : Int), vs (h - 1)) := by
  unfold f_Mo_popValue
  have e : (KRs.mk vs (h : Int)).valueTop - 1 = ((h - 1 : Nat) : Int) := by show (h : Int) - 1 = _; omega
  rw [e, if_pos (by omega), if_pos (by omega), Int.toNat_natCast]
end PSH
set_option maxRecDepth 20000 in
theorem stV_opk {M1 : KM1} {Mp : KMp} {M3 : KM3} {Mj : KMj} {Ml : KMl} {M5 : KM5} {M6 : KM6} {g : Nat} {lab : Nat → Int} {o : Int} {v : Int64} {e : Int} {R : SS} {x : Fr} {k4 : Prop} [Decidable k4] (ho : opk o) : stV M1 Mp M3 Mj Ml M5 M6 g lab k4 o v e (x :: R) = (opF M1 Mp M3 Mj Ml M5 M6 g o v e x).map (fun y => y :: R) := by
  unfold stV
  dsimp only
  rw [if_neg (by omega), if_neg (by omega), if_neg (by omega), if_neg (by omega), if_neg (by omega), if_neg (by omega), if_neg (by omega), if_neg (by omega), if_neg (by omega), if_neg (by omega)]
section STP
variable {fu g0 g i b lt h : Nat} {f : Nat → Int32} {n sp r : Int} {C : KCo} {M : KMe} {W1 : KW1} {W3 : KW3} {Wj : KWj} {W5 : KW5} {M1 : KM1} {Mp : KMp} {M3 : KM3} {Mj : KMj} {Ml : KMl} {M5 : KM5} {M6 : KM6} {ct : KCt} {X : SP} {R : List (Nat × Nat × Nat)} {af : KAf} {rr : KRr} {rl : KRl} {st vs : Nat → Int64} {mb : KMb} {ag : KAg} {my : KMy} {rg : KRg}
set_option maxRecDepth 20000 in
theorem StI.gf (hX : CX f n C M W1 W3 Wj W5 M1 Mp M3 Mj Ml M5 M6 ct X) (hS : StI X M1 Mp M3 Mj Ml g0 g i b R lt h af rr rl st vs) : GF f n C M M1 Mp M3 Wj Mj Ml M5 M6 ct X g := hX.2.2.2.2.2.2.1 g hS.1.1
set_option maxRecDepth 20000 in
/-- the types before and behind an instruction that looks at the innermost block alone -/
theorem StI.op (hX : CX f n C M W1 W3 Wj W5 M1 Mp M3 Mj Ml M5 M6 ct X) (hS : StI X M1 Mp M3 Mj Ml g0 g i b R lt h af rr rl st vs) (hi : i < X.e g) (ho : opk (C.ops i)) : ∃ x y R0, X.F g i = x :: R0 ∧ X.F g (i + 1) = y :: R0 ∧ opF M1 Mp M3 Mj Ml M5 M6 g (C.ops i) (C.values i) (C.extras i) x = some y ∧ lv x ∧ X.k g (i + 1) = X.k g i ∧ X.s g ≤ i + 1 ∧ h = b + nv M1 M3 Mj g + tot (x :: R0) := by
  obtain ⟨x, R0, e1, e2, e3, e4⟩ := hS.1.vals
  have hG := hS.gf hX
  have hs : X.s g ≤ i := hS.1.2.1
  have h1 := hG.2.2.2.2.2.2.2.2.2.2.2.2.2.2.2.1 i hs hi
  rw [e1] at h1
  have h2 : (opF M1 Mp M3 Mj Ml M5 M6 g (C.ops i) (C.values i) (C.extras i) x).map (fun y => y :: R0) = some (X.F g (i + 1)) := by rw [← stV_opk (k4 := k4p C (X.k g i)) ho]; exact h1
  obtain ⟨y, h3, h4⟩ := omap_some h2
  have hk := (hG.2.2.2.2.2.2.2.2.1.2.1 i hs hi).2.2.2.1 (by omega) (by omega) (by omega)
  rw [e1] at e2 e3
  exact ⟨x, y, R0, e1, h4.symm, h3, (Live.cons.mp e2).1, hk, by omega, e3⟩
set_option maxRecDepth 20000 in
/-- go on with other values of the innermost call -/
theorem sr_go {st' vs' : Nat → Int64} {h' i' : Nat} {Fc : Out Empty (KMb × KAg × KMa × KAs × KAf)} {Gr : Out (KRf × KMc × KMy × KRg × KRs × KRr × KRl) (KRf × KMc × KMy × KRg × KRs × KRr × KRl × Bool)} (hS : StI X M1 Mp M3 Mj Ml g0 g i b R lt h af rr rl st vs) (hF : FI X M1 Mp M3 Mj Ml af rr rl st' ((g, i', b) :: R) 0 lt h') (hh : h' ≤ 12096) (ha : ∀ k, k < h' → vs' k = st' k) (hm : MR M6 mb ag my rg) (e1 : Fc = .ret (mb, ag, KMa.mk sp 0 i', KAs.mk st' h', af)) (e2 : Gr = .ret (r, KMc.mk (X.p g i') n, my, rg, KRs.mk vs' h', rr, rl, true)) : SR X M1 Mp M3 Mj Ml M6 n g0 sp lt r Fc Gr := by
  obtain ⟨s1, s2, s3, s4, s5, s6, s7, s8, s9, s10⟩ := hS
  refine Or.inl ⟨_, _, _, _, _, _, _, _, _, _, _, lt, e1, e2, rfl, hm, ⟨g, i', b, R, h', ⟨hF, s2, s3, s4, s5, s6, s7, hh, ha, ?_⟩, rfl, rfl, rfl, rfl, rfl⟩, by omega⟩
  cases R with
  | nil => exact s10
  | cons a R' => exact s10
set_option maxRecDepth 20000 in
/-- both stop -/
theorem sr_no {c : Int} {as : KAs} {nx : Int} {rs : KRs} {rr' : KRr} {rl' : KRl} {mc : KMc} {Fc : Out Empty (KMb × KAg × KMa × KAs × KAf)} {Gr : Out (KRf × KMc × KMy × KRg × KRs × KRr × KRl) (KRf × KMc × KMy × KRg × KRs × KRr × KRl × Bool)} (hc : c ≠ 0) (hm : MR M6 mb ag my rg) (e1 : Fc = .ret (mb, ag, KMa.mk sp c nx, as, af)) (e2 : Gr = .thr (c, mc, my, rg, rs, rr', rl')) : SR X M1 Mp M3 Mj Ml M6 n g0 sp lt r Fc Gr :=
  Or.inr (Or.inr ⟨_, _, _, _, _, _, e1, e2, rfl, rfl, hc, hm⟩)
set_option maxRecDepth 20000 in
/-- one value more -/
theorem sr_push {v v' : Int64} {t : Int} {Fc : Out Empty (KMb × KAg × KMa × KAs × KAf)} {Gr : Out (KRf × KMc × KMy × KRg × KRs × KRr × KRl) (KRf × KMc × KMy × KRg × KRs × KRr × KRl × Bool)} {x y : Fr} {R0 : SS} {l l' : List Int} {h' : Nat} {q : Int} (hS : StI X M1 Mp M3 Mj Ml g0 g i b R lt h af rr rl st vs) (e : X.F g i = x :: R0) (hi : i < X.e g) (hk : X.k g (i + 1) = X.k g i) (e' : X.F g (i + 1) = y :: R0) (hy : lv y) (hl : x.1 = l ++ l') (hr : y.1 = t :: l') (hh : h' = h - l.length) (hv : t = 127 → R32 v.toInt) (hvv : v' = v) (hq : q = X.p g (i + 1)) (hm : MR M6 mb ag my rg) (e1 : Fc = obind (f_Ma_push (KMa.mk sp 0 ((i + 1 : Nat) : Int)) (KAs.mk st h') v) (fun x => .ret (mb, ag, x.1, x.2, af))) (e2 : Gr = obind2 (f_Mo_pushValue r (KRs.mk vs h') v') (fun x => .ret (x.1, KMc.mk q n, my, rg, x.2, rr, rl, true)) (fun x => .thr (x.1, KMc.mk q n, my, rg, x.2, rr, rl))) : SR X M1 Mp M3 Mj Ml M6 n g0 sp lt r Fc Gr := by
  subst hvv hq hh
  have hs : X.s g ≤ i := hS.1.2.1
  have hh := hS.2.2.2.2.2.2.2.1
  have ha := hS.2.2.2.2.2.2.2.2.1
  rw [cm_push] at e1
  rw [rm_push (by omega)] at e2
  by_cases c : h - l.length < 12096
  · rw [if_pos c, obind_ret] at e1
    rw [if_pos c, obind2_ret] at e2
    refine sr_go hS (hS.1.pp (v := v') e (by omega) (by omega) hk e' hy hl hr hv) (by omega) (fun k hk => ?_) hm e1 e2
    by_cases ck : k = h - l.length
    · rw [ck, updL_s, updL_s]
    · rw [updL_n ck, updL_n ck]; exact ha k (by omega)
  · rw [if_neg c, obind_ret] at e1
    rw [if_neg c, obind2_thr] at e2
    exact sr_no (by decide) hm e1 e2
end STP

/-! RUN: constants, variables, drop, select -/
set_option maxRecDepth 20000 in
theorem v32 {v : Int64} (h0 : 0 ≤ v.toInt) (h1 : v.toInt ≤ 2147483647) : v.toInt32.toInt = v.toInt := by
  rw [Int64.toInt_toInt32, Int.bmod_eq_of_le (by omega) (by omega)]
section TK
variable {fu g0 g i b lt h : Nat} {f : Nat → Int32} {n sp r : Int} {C : KCo} {M : KMe} {W1 : KW1} {W3 : KW3} {Wj : KWj} {W5 : KW5} {M1 : KM1} {Mp : KMp} {M3 : KM3} {Mj : KMj} {Ml : KMl} {M5 : KM5} {M6 : KM6} {ct : KCt} {X : SP} {R : List (Nat × Nat × Nat)} {af : KAf} {rr : KRr} {rl : KRl} {st vs : Nat → Int64} {mb : KMb} {ag : KAg} {my : KMy} {rg : KRg} {as : KAs} {o nx a : Int}
set_option maxRecDepth 20000 in
theorem tk_ctl (h0 : 0 ≤ sp) (h1 : sp + 1 ≤ 100000) (ho : o ≤ 16) : f_Ma_takeStep fu C ct W1 W3 Wj W5 mb ag (KMa.mk sp 0 nx) as af o a = obind (f_Ma_performControl fu C ct W1 W3 Wj (KMa.mk (sp + 1) 0 nx) as af o a) (fun x => .ret (mb, ag, x.1, x.2.1, x.2.2)) := by
  unfold f_Ma_takeStep
  simp only [jp]
  rw [if_pos (show R32 ((KMa.mk sp 0 nx).steps + 1) by show R32 (sp + 1); omega), if_pos (show (KMa.mk sp 0 nx).steps + 1 ≤ 100000 from h1), if_neg (show ¬ 16 < o by omega)]
set_option maxRecDepth 20000 in
theorem tk_var (h0 : 0 ≤ sp) (h1 : sp + 1 ≤ 100000) (ho : 16 < o) (ho2 : o ≤ 36) (hi : i < 2000) : f_Ma_takeStep fu C ct W1 W3 Wj W5 mb ag (KMa.mk sp 0 nx) as af o i = obind (f_Ma_performVariable ag (KMa.mk (sp + 1) 0 nx) as af o ((C.values i).toInt32.toInt)) (fun x => .ret (mb, x.1, x.2.1, x.2.2, af)) := by
  unfold f_Ma_takeStep
  simp only [jp]
  rw [if_pos (show R32 ((KMa.mk sp 0 nx).steps + 1) by show R32 (sp + 1); omega), if_pos (show (KMa.mk sp 0 nx).steps + 1 ≤ 100000 from h1), if_pos ho, if_neg (show ¬ 36 < o by omega), if_pos (show (0 : Int) ≤ i ∧ (i : Int) < 2000 by omega), Int.toNat_natCast]
set_option maxRecDepth 20000 in
theorem tk_mem (h0 : 0 ≤ sp) (h1 : sp + 1 ≤ 100000) (ho : 36 < o) (ho2 : o ≤ 64) : f_Ma_takeStep fu C ct W1 W3 Wj W5 mb ag (KMa.mk sp 0 nx) as af o a = obind (f_Ma_performMemory fu C W5 mb ag (KMa.mk (sp + 1) 0 nx) as o a) (fun x => .ret (x.1, x.2.1, x.2.2.1, x.2.2.2, af)) := by
  unfold f_Ma_takeStep
  simp only [jp]
  rw [if_pos (show R32 ((KMa.mk sp 0 nx).steps + 1) by show R32 (sp + 1); omega), if_pos (show (KMa.mk sp 0 nx).steps + 1 ≤ 100000 from h1), if_pos (show 16 < o by omega), if_pos ho, if_neg (show ¬ 64 < o by omega)]
set_option maxRecDepth 20000 in
theorem tk_cst (h0 : 0 ≤ sp) (h1 : sp + 1 ≤ 100000) (ho : 64 < o) (ho2 : o ≤ 66) (hi : i < 2000) : f_Ma_takeStep fu C ct W1 W3 Wj W5 mb ag (KMa.mk sp 0 nx) as af o i = obind (f_Ma_push (KMa.mk (sp + 1) 0 nx) as (C.values i)) (fun x => .ret (mb, ag, x.1, x.2, af)) := by
  unfold f_Ma_takeStep
  simp only [jp]
  rw [if_pos (show R32 ((KMa.mk sp 0 nx).steps + 1) by show R32 (sp + 1); omega), if_pos (show (KMa.mk sp 0 nx).steps + 1 ≤ 100000 from h1), if_pos (show 16 < o by omega), if_pos (show 36 < o by omega), if_pos ho, if_neg (show ¬ 66 < o by omega), if_pos (show (0 : Int) ≤ i ∧ (i : Int) < 2000 by omega), Int.toNat_natCast]
set_option maxRecDepth 20000 in
theorem tk_cmp (h0 : 0 ≤ sp) (h1 : sp + 1 ≤ 100000) (ho : 66 < o) (ho2 : o ≤ 90) : f_Ma_takeStep fu C ct W1 W3 Wj W5 mb ag (KMa.mk sp 0 nx) as af o a = obind (f_Ma_performComparison (KMa.mk (sp + 1) 0 nx) as o) (fun x => .ret (mb, ag, x.1, x.2, af)) := by
  unfold f_Ma_takeStep
  simp only [jp]
  rw [if_pos (show R32 ((KMa.mk sp 0 nx).steps + 1) by show R32 (sp + 1); omega), if_pos (show (KMa.mk sp 0 nx).steps + 1 ≤ 100000 from h1), if_pos (show 16 < o by omega), if_pos (show 36 < o by omega), if_pos (show 64 < o by omega), if_pos ho, if_neg (show ¬ 90 < o by omega)]
set_option maxRecDepth 20000 in
theorem tk_int (h0 : 0 ≤ sp) (h1 : sp + 1 ≤ 100000) (ho : 90 < o) (ho2 : o ≤ 120) : f_Ma_takeStep fu C ct W1 W3 Wj W5 mb ag (KMa.mk sp 0 nx) as af o a = obind (f_Ma_performInts fu (KMa.mk (sp + 1) 0 nx) as o) (fun x => .ret (mb, ag, x.1, x.2, af)) := by
  unfold f_Ma_takeStep
  simp only [jp]
  rw [if_pos (show R32 ((KMa.mk sp 0 nx).steps + 1) by show R32 (sp + 1); omega), if_pos (show (KMa.mk sp 0 nx).steps + 1 ≤ 100000 from h1), if_pos (show 16 < o by omega), if_pos (show 36 < o by omega), if_pos (show 64 < o by omega), if_pos (show 66 < o by omega), if_pos ho, if_neg (show ¬ 120 < o by omega)]
set_option maxRecDepth 20000 in
theorem tk_lng (h0 : 0 ≤ sp) (h1 : sp + 1 ≤ 100000) (ho : 120 < o) (ho2 : o ≤ 138) : f_Ma_takeStep fu C ct W1 W3 Wj W5 mb ag (KMa.mk sp 0 nx) as af o a = obind (f_Ma_performLongs fu (KMa.mk (sp + 1) 0 nx) as (o - 18)) (fun x => .ret (mb, ag, x.1, x.2, af)) := by
  unfold f_Ma_takeStep
  simp only [jp]
  rw [if_pos (show R32 ((KMa.mk sp 0 nx).steps + 1) by show R32 (sp + 1); omega), if_pos (show (KMa.mk sp 0 nx).steps + 1 ≤ 100000 from h1), if_pos (show 16 < o by omega), if_pos (show 36 < o by omega), if_pos (show 64 < o by omega), if_pos (show 66 < o by omega), if_pos (show 90 < o by omega), if_pos ho, if_neg (show ¬ 138 < o by omega), if_pos (show R32 (o - 18) by omega)]
set_option maxRecDepth 20000 in
/-- the place of an instruction, and of the next -/
theorem StI.dec (hX : CX f n C M W1 W3 Wj W5 M1 Mp M3 Mj Ml M5 M6 ct X) (hS : StI X M1 Mp M3 Mj Ml g0 g i b R lt h af rr rl st vs) (hi : i < X.e g) : i < 2000 ∧ 0 ≤ X.p g i ∧ X.p g i < X.p g (i + 1) ∧ X.p g (i + 1) ≤ n ∧ by8 (f (X.p g i).toNat) = C.ops i ∧ kn (C.ops i) ∧ DecI f (C.ops i) (C.values i) (C.extras i) C.labels C.labelCount (X.p g i + 1) (X.p g (i + 1)) := by
  have hG := hS.gf hX
  have hs : X.s g ≤ i := hS.1.2.1
  obtain ⟨d1, d2, d3, d4, d5, d6⟩ := hG.2.2.2.2.2.2.2.1 i hs hi
  have hle : X.p g (i + 1) ≤ X.p g (X.e g) := by
    by_cases c : i + 1 = X.e g
    · rw [c]; omega
    · have := hG.2.2.2.2.2.2.2.1.lt' (show X.s g ≤ i + 1 by omega) (show i + 1 < X.e g by omega) (Nat.le_refl _); omega
  have := hG.2.2.2.2.2.1
  have := hG.2.2.1
  exact ⟨by omega, d1, d2, by omega, d4, d5, d6⟩
/-! constants -/
set_option maxRecDepth 20000 in
theorem s_cst (hfu : 10 < fu) (hX : CX f n C M W1 W3 Wj W5 M1 Mp M3 Mj Ml M5 M6 ct X) (hS : StI X M1 Mp M3 Mj Ml g0 g i b R lt h af rr rl st vs) (hm : MR M6 mb ag my rg) (hi : i < X.e g) (h0 : 0 ≤ sp) (h1 : sp + 1 ≤ 100000) (ho : C.ops i = 65 ∨ C.ops i = 66) : SR X M1 Mp M3 Mj Ml M6 n g0 (sp + 1) lt r (f_Ma_takeStep fu C ct W1 W3 Wj W5 mb ag (KMa.mk sp 0 ((i + 1 : Nat) : Int)) (KAs.mk st h) af (C.ops i) i) (f_Mo_step fu r (KMc.mk (X.p g i + 1) n) my rg (KRs.mk vs h) rr rl (KMt.mk f n) M1 M3 Mj M5 M (C.ops i) (X.p g i)) := by
  obtain ⟨x, y, R0, e1, e2, e3, e4, e5, e6, e7⟩ := hS.op hX hi (by omega)
  obtain ⟨d1, d2, d3, d4, d5, d6, d7⟩ := hS.dec hX hi
  have hn := hX.2.2.2.2.1
  rcases ho with ho | ho
  · obtain ⟨⟨k1, k2, k3⟩, k4⟩ := d7.2.2.2.2.2.1 ho
    have hy : y = pushA 127 x := by
      rw [ho] at e3; unfold opF at e3
      simp only [Int.reduceEq, Int.reduceLE, reduceIte] at e3
      exact (Option.some.inj e3).symm
    obtain ⟨y1, y2⟩ := pushA_live (t := 127) (by omega) e4
    rw [← hy] at y1 y2
    refine sr_push (l := []) (l' := x.1) hS e1 hi e5 e2 y1 rfl y2 rfl (fun _ => k4) rfl rfl hm (tk_cst h0 h1 (by omega) (by omega) d1) ?_
    rw [ho]
    unfold f_Mo_step
    simp only [jp, Int.reduceEq, reduceIte]
    rw [k3 fu r n n hfu d4 hn, obind2_ret]
    rfl
  · have k0 := d7.2.2.2.2.2.2.1 ho
    obtain ⟨k1, k2, k3⟩ := k0
    have hy : y = pushA 126 x := by
      rw [ho] at e3; unfold opF at e3
      simp only [Int.reduceEq, Int.reduceLE, reduceIte] at e3
      exact (Option.some.inj e3).symm
    obtain ⟨y1, y2⟩ := pushA_live (t := 126) (by omega) e4
    rw [← hy] at y1 y2
    refine sr_push (l := []) (l' := x.1) (t := 126) hS e1 hi e5 e2 y1 rfl y2 rfl (fun q => absurd q (by decide)) rfl rfl hm (tk_cst h0 h1 (by omega) (by omega) d1) ?_
    rw [ho]
    unfold f_Mo_step
    simp only [jp, Int.reduceEq, reduceIte]
    rw [k3 fu r n n hfu d4 hn, obind2_ret]
    rfl
end TK

/-! RUN: blocks are entered -/
section OPN
variable {fu g0 g i b lt h : Nat} {f : Nat → Int32} {n sp r : Int} {C : KCo} {M : KMe} {W1 : KW1} {W3 : KW3} {Wj : KWj} {W5 : KW5} {M1 : KM1} {Mp : KMp} {M3 : KM3} {Mj : KMj} {Ml : KMl} {M5 : KM5} {M6 : KM6} {ct : KCt} {X : SP} {R : List (Nat × Nat × Nat)} {af : KAf} {rr : KRr} {rl : KRl} {st vs : Nat → Int64} {mb : KMb} {ag : KAg} {my : KMy} {rg : KRg}
set_option maxRecDepth 20000 in
theorem FI.opn {i' : Nat} {w : Int × Int} {Q : SS} {lt' : Int} (hF : FI X M1 Mp M3 Mj Ml af rr rl st ((g, i, b) :: R) 0 lt h) (hk : X.k g i' = i :: X.k g i) (e' : X.F g i' = ([], false, w) :: Q) (e2 : tot (X.F g (i + 1)) = tot Q) (hQ : Live Q) (hT : VT st (b + nv M1 M3 Mj g) (flat Q)) (h1 : X.s g ≤ i') (h2 : i' ≤ X.e g) : FI X M1 Mp M3 Mj Ml af rr (KRl.mk (updZ rl.labelAt lt (X.p g i)) (updZ rl.labelHeight lt ((b + nv M1 M3 Mj g + tot Q : Nat) : Int)) lt') st ((g, i', b) :: R) 0 (lt + 1) (b + nv M1 M3 Mj g + tot Q) := by
  obtain ⟨a1, a2, a3, a4, a5, a6, a7, a8, a9, ⟨x, R0, b1, b2, b3, b4⟩, lb, c1, c2, c3, c4, c5⟩ := hF
  dsimp only at *
  have hl : ∀ k, k < lt → (KRl.mk (updZ rl.labelAt lt (X.p g i)) (updZ rl.labelHeight lt ((b + nv M1 M3 Mj g + tot Q : Nat) : Int)) lt').labelAt k = rl.labelAt k ∧ (KRl.mk (updZ rl.labelAt lt (X.p g i)) (updZ rl.labelHeight lt ((b + nv M1 M3 Mj g + tot Q : Nat) : Int)) lt').labelHeight k = rl.labelHeight k := fun k hk => ⟨updZ_n (by omega), updZ_n (by omega)⟩
  refine ⟨a1, h1, h2, a4, a5, a6, a7, a8, a9, ⟨([], false, w), Q, e', Live.cons.mpr ⟨⟨rfl, fun t ht => absurd ht List.not_mem_nil⟩, hQ⟩, rfl, hT⟩, lb, c1, (hl lb (by omega)).1.trans c2, by show lt + 1 = lb + 1 + (X.k g i').length; rw [hk, List.length_cons]; omega, ?_, FI.cg c5 (fun k _ => ⟨rfl, rfl, rfl, rfl, rfl, rfl, rfl⟩) (fun k hk => hl k (by omega)) (fun k _ => rfl)⟩
  show LB X g _ _ (lt + 1) (X.k g i')
  rw [hk]
  intro k o hko
  cases k with
  | zero =>
    cases hko
    exact ⟨updZ_s _ _ _, by rw [e2]; exact updZ_s _ _ _⟩
  | succ k =>
    have hko' : (X.k g i)[k]? = some o := hko
    have hlen : k < (X.k g i).length := (List.getElem?_eq_some_iff.mp hko').1
    obtain ⟨q1, q2⟩ := c4 k o hko'
    obtain ⟨q3, q4⟩ := hl (lt - 1 - k) (by omega)
    rw [show lt + 1 - 1 - (k + 1) = lt - 1 - k by omega]
    exact ⟨q3.trans q1, q4.trans q2⟩
set_option maxRecDepth 20000 in
theorem FI.le : ∀ {L : List (Nat × Nat × Nat)} {pend : Int} {lt h : Nat}, (∀ g i : Nat, (g : Int) < M3.functions → X.s g ≤ i → i ≤ X.e g → (X.k g i).length ≤ 100) → FI X M1 Mp M3 Mj Ml af rr rl st L pend lt h → lt ≤ 101 * L.length
  | [], _, _, _, _, h => by rw [h.1]; exact Nat.zero_le _
  | a :: R, _, _, _, hk, hF => by
    obtain ⟨a1, a2, a3, a4, a5, a6, a7, a8, a9, _, lb, c1, c2, c3, c4, c5⟩ := hF
    have := hk a.1 a.2.1 a1 a2 a3
    have := FI.le hk c5
    rw [List.length_cons]; omega
set_option maxRecDepth 20000 in
theorem CX.k100 (hX : CX f n C M W1 W3 Wj W5 M1 Mp M3 Mj Ml M5 M6 ct X) : ∀ g i : Nat, (g : Int) < M3.functions → X.s g ≤ i → i ≤ X.e g → (X.k g i).length ≤ 100 := by
  intro g i hg h1 h2
  have hK := (hX.2.2.2.2.2.2.1 g hg).2.2.2.2.2.2.2.2.1
  by_cases c : i = X.s g
  · rw [c, hK.1]; exact Nat.zero_le _
  · obtain ⟨j, rfl⟩ : ∃ q, i = q + 1 := ⟨i - 1, by omega⟩
    exact (hK.2.1 j (by omega) (by omega)).2.2.2.2
set_option maxRecDepth 20000 in
theorem StI.lle (hX : CX f n C M W1 W3 Wj W5 M1 Mp M3 Mj Ml M5 M6 ct X) (hS : StI X M1 Mp M3 Mj Ml g0 g i b R lt h af rr rl st vs) : lt ≤ 10100 := by
  have := hS.1.le hX.k100
  have := hS.2.2.2.2.2.2.1
  rw [List.length_cons] at *; omega
set_option maxRecDepth 20000 in
theorem mo_open (hl : lt ≤ 10100) (hr : rl.labelTop = lt) {a : Int} : f_Mo_enterBlock (KRs.mk vs h) rl a = .ret (KRl.mk (updZ rl.labelAt lt a) (updZ rl.labelHeight lt h) ((lt : Int) + 1)) := by
  unfold f_Mo_enterBlock
  rw [hr, if_pos (by omega), if_pos (by omega), if_pos (by omega), Int.toNat_natCast]
set_option maxRecDepth 20000 in
/-- both go on in a block that is entered -/
theorem sr_opn {i' : Nat} {w : Int × Int} {Q : SS} {Fc : Out Empty (KMb × KAg × KMa × KAs × KAf)} {Gr : Out (KRf × KMc × KMy × KRg × KRs × KRr × KRl) (KRf × KMc × KMy × KRg × KRs × KRr × KRl × Bool)} {h' : Nat} (hS : StI X M1 Mp M3 Mj Ml g0 g i b R lt h af rr rl st vs) (hk : X.k g i' = i :: X.k g i) (e' : X.F g i' = ([], false, w) :: Q) (e2 : tot (X.F g (i + 1)) = tot Q) (hQ : Live Q) (hT : VT st (b + nv M1 M3 Mj g) (flat Q)) (h1 : X.s g ≤ i') (h2 : i' ≤ X.e g) (hh : h' = b + nv M1 M3 Mj g + tot Q) (hle : h' ≤ h) (hm : MR M6 mb ag my rg) (e3 : Fc = .ret (mb, ag, KMa.mk sp 0 i', KAs.mk st h', af)) (e4 : Gr = .ret (r, KMc.mk (X.p g i') n, my, rg, KRs.mk vs h', rr, KRl.mk (updZ rl.labelAt lt (X.p g i)) (updZ rl.labelHeight lt h') ((lt : Int) + 1), true)) : SR X M1 Mp M3 Mj Ml M6 n g0 sp lt r Fc Gr := by
  subst hh
  have hF := hS.1.opn (lt' := (lt : Int) + 1) hk e' e2 hQ hT h1 h2
  obtain ⟨s1, s2, s3, s4, s5, s6, s7, s8, s9, s10⟩ := hS
  refine Or.inl ⟨_, _, _, _, _, _, _, _, _, _, _, lt + 1, e3, e4, rfl, hm, ⟨g, i', b, R, _, ⟨hF, s2, s3, s4, s5, rfl, s7, by omega, fun k hk => s9 k (by omega), ?_⟩, rfl, rfl, rfl, rfl, rfl⟩, Nat.le_refl _⟩
  cases R with
  | nil => exact s10
  | cons a R' => exact s10
/-! unreachable, nop, block, loop -/
set_option maxRecDepth 20000 in
theorem s_0 (hm : MR M6 mb ag my rg) (h0 : 0 ≤ sp) (h1 : sp + 1 ≤ 100000) (ho : C.ops i = 0) {mc : KMc} {a nx : Int} : SR X M1 Mp M3 Mj Ml M6 n g0 (sp + 1) lt r (f_Ma_takeStep fu C ct W1 W3 Wj W5 mb ag (KMa.mk sp 0 nx) (KAs.mk st h) af (C.ops i) i) (f_Mo_step fu r mc my rg (KRs.mk vs h) rr rl (KMt.mk f n) M1 M3 Mj M5 M (C.ops i) a) := by
  refine sr_no (af := af) (c := 3) (nx := nx) (as := KAs.mk st h) (mc := mc) (rs := KRs.mk vs h) (rr' := rr) (rl' := rl) (by decide) hm ?_ ?_
  · rw [ho, tk_ctl h0 h1 (by decide)]
    unfold f_Ma_performControl
    simp only [jp, Int.reduceEq, reduceIte]
    rfl
  · rw [ho]
    unfold f_Mo_step
    simp only [jp, Int.reduceEq, reduceIte]
    rfl
set_option maxRecDepth 20000 in
theorem s_1 (hX : CX f n C M W1 W3 Wj W5 M1 Mp M3 Mj Ml M5 M6 ct X) (hS : StI X M1 Mp M3 Mj Ml g0 g i b R lt h af rr rl st vs) (hm : MR M6 mb ag my rg) (hi : i < X.e g) (h0 : 0 ≤ sp) (h1 : sp + 1 ≤ 100000) (ho : C.ops i = 1) : SR X M1 Mp M3 Mj Ml M6 n g0 (sp + 1) lt r (f_Ma_takeStep fu C ct W1 W3 Wj W5 mb ag (KMa.mk sp 0 ((i + 1 : Nat) : Int)) (KAs.mk st h) af (C.ops i) i) (f_Mo_step fu r (KMc.mk (X.p g i + 1) n) my rg (KRs.mk vs h) rr rl (KMt.mk f n) M1 M3 Mj M5 M (C.ops i) (X.p g i)) := by
  obtain ⟨x, R0, e1, e2, e3, e4⟩ := hS.1.vals
  obtain ⟨d1, d2, d3, d4, d5, d6, d7⟩ := hS.dec hX hi
  have hG := hS.gf hX
  have hs : X.s g ≤ i := hS.1.2.1
  have hst := hG.2.2.2.2.2.2.2.2.2.2.2.2.2.2.2.1 i hs hi
  have hk := (hG.2.2.2.2.2.2.2.2.1.2.1 i hs hi).2.2.2.1 (by omega) (by omega) (by omega)
  have hF : X.F g (i + 1) = x :: R0 := by
    rw [e1] at hst
    unfold stAt at hst
    rw [ho] at hst
    unfold stV at hst
    simp only [Int.reduceEq, reduceIte] at hst
    exact (Option.some.inj hst).symm
  have hp : X.p g (i + 1) = X.p g i + 1 := d7.2.2.2.2.2.2.2 (by omega)
  rw [e1] at e2
  refine sr_go (h' := h - ([] : List Int).length) hS (hS.1.pop (l := []) e1 (by omega) (by omega) hk hF (Live.cons.mp e2).1 rfl) (by have := hS.2.2.2.2.2.2.2.1; omega) (fun k hk => hS.2.2.2.2.2.2.2.2.1 k (by omega)) hm ?_ ?_
  · rw [ho, tk_ctl h0 h1 (by decide)]
    unfold f_Ma_performControl
    simp only [jp, Int.reduceEq, reduceIte]
    rfl
  · rw [ho, hp]
    unfold f_Mo_step
    simp only [jp, Int.reduceEq, reduceIte]
    rfl
set_option maxRecDepth 20000 in
theorem s_23 (hX : CX f n C M W1 W3 Wj W5 M1 Mp M3 Mj Ml M5 M6 ct X) (hS : StI X M1 Mp M3 Mj Ml g0 g i b R lt h af rr rl st vs) (hm : MR M6 mb ag my rg) (hi : i < X.e g) (h0 : 0 ≤ sp) (h1 : sp + 1 ≤ 100000) (ho : C.ops i = 2 ∨ C.ops i = 3) : SR X M1 Mp M3 Mj Ml M6 n g0 (sp + 1) lt r (f_Ma_takeStep fu C ct W1 W3 Wj W5 mb ag (KMa.mk sp 0 ((i + 1 : Nat) : Int)) (KAs.mk st h) af (C.ops i) i) (f_Mo_step fu r (KMc.mk (X.p g i + 1) n) my rg (KRs.mk vs h) rr rl (KMt.mk f n) M1 M3 Mj M5 M (C.ops i) (X.p g i)) := by
  obtain ⟨x, R0, e1, e2, e3, e4⟩ := hS.1.vals
  obtain ⟨d1, d2, d3, d4, d5, d6, d7⟩ := hS.dec hX hi
  have hn := hX.2.2.2.2.1
  have hG := hS.gf hX
  have hs : X.s g ≤ i := hS.1.2.1
  have hst := hG.2.2.2.2.2.2.2.2.2.2.2.2.2.2.2.1 i hs hi
  have hk := (hG.2.2.2.2.2.2.2.2.1.2.1 i hs hi).1 (show isOp (C.ops i) by omega)
  have hF : X.F g (i + 1) = ([], false, hdO C i) :: x :: R0 := by
    rw [e1] at hst
    unfold stAt stV at hst
    dsimp only at hst
    rw [if_neg (by omega), if_neg (by omega), if_pos ho] at hst
    exact (Option.some.inj hst).symm
  have hp : X.p g (i + 1) = X.p g i + 1 + 1 := (d7.1 (by omega)).1
  have hl := hS.lle hX
  have hlt := hS.2.2.2.2.2.1
  rw [e1] at e2 e3 e4
  refine sr_opn (i' := i + 1) hS hk hF (by rw [hF]; rfl) e2 e4 (by omega) (by omega) e3 (Nat.le_refl _) hm ?_ ?_
  · rcases ho with ho | ho
    all_goals
      rw [ho, tk_ctl h0 h1 (by decide)]
      unfold f_Ma_performControl
      simp only [jp, Int.reduceEq, reduceIte]
      rfl
  · rcases ho with ho | ho
    all_goals
      rw [ho, hp]
      unfold f_Mo_step
      simp only [jp, Int.reduceEq, reduceIte]
      rw [if_pos (show R32 ((KMc.mk (X.p g i + 1) n).cursor + 1) by show R32 (X.p g i + 1 + 1); omega), mo_open hl hlt, obind_ret]
set_option maxRecDepth 20000 in
theorem s_4 (hX : CX f n C M W1 W3 Wj W5 M1 Mp M3 Mj Ml M5 M6 ct X) (hS : StI X M1 Mp M3 Mj Ml g0 g i b R lt h af rr rl st vs) (hm : MR M6 mb ag my rg) (hi : i < X.e g) (h0 : 0 ≤ sp) (h1 : sp + 1 ≤ 100000) (ho : C.ops i = 4) : SR X M1 Mp M3 Mj Ml M6 n g0 (sp + 1) lt r (f_Ma_takeStep fu C ct W1 W3 Wj W5 mb ag (KMa.mk sp 0 ((i + 1 : Nat) : Int)) (KAs.mk st h) af (C.ops i) i) (f_Mo_step fu r (KMc.mk (X.p g i + 1) n) my rg (KRs.mk vs h) rr rl (KMt.mk f n) M1 M3 Mj M5 M (C.ops i) (X.p g i)) := by
  obtain ⟨x, R0, e1, e2, e3, e4⟩ := hS.1.vals
  obtain ⟨d1, d2, d3, d4, d5, d6, d7⟩ := hS.dec hX hi
  have hn := hX.2.2.2.2.1
  have hG := hS.gf hX
  have hs : X.s g ≤ i := hS.1.2.1
  have hst := hG.2.2.2.2.2.2.2.2.2.2.2.2.2.2.2.1 i hs hi
  have hk := (hG.2.2.2.2.2.2.2.2.1.2.1 i hs hi).1 (show isOp (C.ops i) by omega)
  rw [e1] at e2 e3 e4 hst
  obtain ⟨y, q1, q2⟩ : ∃ y, popA 127 x = some y ∧ ([], false, hdO C i) :: y.2 :: R0 = X.F g (i + 1) := by
    unfold stAt stV at hst
    dsimp only at hst
    rw [if_neg (by omega), if_neg (by omega), if_neg (by omega), if_pos ho] at hst
    obtain ⟨y, q1, q2⟩ := omap_some hst
    exact ⟨y, q1, by rw [← q2]; show (([] : List Int), false, (if C.ops i = 3 then 0 else uT (C.extras i)), uT (C.extras i)) :: _ = _; rw [if_neg (show ¬ C.ops i = 3 by omega)]⟩
  obtain ⟨k1, k2, k3, k4, k5⟩ := popA_live q1 (Live.cons.mp e2).1
  have hp : X.p g (i + 1) = X.p g i + 1 + 1 := (d7.1 (by omega)).1
  have hl := hS.lle hX
  have hlt := hS.2.2.2.2.2.1
  have hh := hS.2.2.2.2.2.2.2.1
  have ha := hS.2.2.2.2.2.2.2.2.1
  have hfl : flat (x :: R0) = y.1 :: flat (y.2 :: R0) := by show x.1 ++ flat R0 = y.1 :: (y.2.1 ++ flat R0); rw [k1, List.cons_append]
  have htt : tot (x :: R0) = tot (y.2 :: R0) + 1 := by show (flat (x :: R0)).length = _; rw [hfl, List.length_cons]; rfl
  have hQ : Live (y.2 :: R0) := Live.cons.mpr ⟨k4, (Live.cons.mp e2).2⟩
  have hT : VT st (b + nv M1 M3 Mj g) (flat (y.2 :: R0)) := by rw [hfl] at e4; exact e4.2
  have hME := hG.2.2.2.2.2.2.2.2.2.2.1 i hs hi (show isOp (C.ops i) by omega)
  have hste := hG.2.2.2.2.2.2.2.2.2.1
  have hV := hG.2.2.2.2.2.2.2.2.2.2.2.2.2.2
  have hSK := hG.2.2.2.2.2.2.2.2.1
  have hpn : (X.p g i).toNat < 2000 := by omega
  have heg := hG.2.2.1
  have ec : f_Ma_takeStep fu C ct W1 W3 Wj W5 mb ag (KMa.mk sp 0 ((i + 1 : Nat) : Int)) (KAs.mk st h) af (C.ops i) i = if st (h - 1) = (0 : Int64) then (if C.elses i < 0 then (if R32 (C.ends i + 1) then .ret (mb, ag, KMa.mk (sp + 1) 0 (C.ends i + 1), KAs.mk st ((h - 1 : Nat) : Int), af) else .bad) else (if R32 (C.elses i + 1) then .ret (mb, ag, KMa.mk (sp + 1) 0 (C.elses i + 1), KAs.mk st ((h - 1 : Nat) : Int), af) else .bad)) else .ret (mb, ag, KMa.mk (sp + 1) 0 ((i + 1 : Nat) : Int), KAs.mk st ((h - 1 : Nat) : Int), af) := by
    rw [ho, tk_ctl h0 h1 (by decide)]
    unfold f_Ma_performControl
    simp only [jp, Int.reduceEq, reduceIte]
    rw [cm_pop (by omega) hh, obind_ret]
    dsimp only
    simp only [if_pos (show (0 : Int) ≤ i ∧ (i : Int) < 2000 by omega), Int.toNat_natCast]
    by_cases c : st (h - 1) = (0 : Int64)
    · rw [if_pos c, if_pos c]
      by_cases c2 : C.elses i < 0
      · rw [if_pos c2, if_pos c2]
        by_cases c3 : R32 (C.ends i + 1)
        · rw [if_pos c3, if_pos c3, obind_ret]
        · rw [if_neg c3, if_neg c3]; rfl
      · rw [if_neg c2, if_neg c2]
        by_cases c3 : R32 (C.elses i + 1)
        · rw [if_pos c3, if_pos c3, obind_ret]
        · rw [if_neg c3, if_neg c3]; rfl
    · rw [if_neg c, if_neg c, obind_ret]
  have er : f_Mo_step fu r (KMc.mk (X.p g i + 1) n) my rg (KRs.mk vs h) rr rl (KMt.mk f n) M1 M3 Mj M5 M (C.ops i) (X.p g i) = if st (h - 1) = (0 : Int64) then (if 0 ≤ M.elseOf (X.p g i).toNat then (if R32 (M.elseOf (X.p g i).toNat + 1) then .ret (r, KMc.mk (M.elseOf (X.p g i).toNat + 1) n, my, rg, KRs.mk vs ((h - 1 : Nat) : Int), rr, KRl.mk (updZ rl.labelAt lt (X.p g i)) (updZ rl.labelHeight lt ((h - 1 : Nat) : Int)) ((lt : Int) + 1), true) else .bad) else (if R32 (M.endOf (X.p g i).toNat + 1) then .ret (r, KMc.mk (M.endOf (X.p g i).toNat + 1) n, my, rg, KRs.mk vs ((h - 1 : Nat) : Int), rr, rl, true) else .bad)) else .ret (r, KMc.mk (X.p g (i + 1)) n, my, rg, KRs.mk vs ((h - 1 : Nat) : Int), rr, KRl.mk (updZ rl.labelAt lt (X.p g i)) (updZ rl.labelHeight lt ((h - 1 : Nat) : Int)) ((lt : Int) + 1), true) := by
    rw [ho, hp]
    unfold f_Mo_step
    simp only [jp, Int.reduceEq, reduceIte]
    rw [if_pos (show R32 ((KMc.mk (X.p g i + 1) n).cursor + 1) by show R32 (X.p g i + 1 + 1); omega), rm_pop (by omega) hh, obind_ret]
    dsimp only
    rw [mo_open hl hlt, ha (h - 1) (by omega)]
    simp only [obind_ret, if_pos (show (0 : Int) ≤ X.p g i ∧ X.p g i < 2000 by omega), reduceIte, Bool.false_eq_true]
  by_cases c : st (h - 1) = (0 : Int64)
  · rw [if_pos c] at ec er
    by_cases c2 : C.elses i < 0
    · have hxo : M.elseOf (X.p g i).toNat = -1 := by rw [hME.1, if_pos c2]
      obtain ⟨E, w, R', f1, f2, f3, f4, f5, f6, f7, f8, f9⟩ := at_end hSK hste hV hs hi (show isOp (C.ops i) by omega)
      have hpE : X.p g (E + 1) = X.p g E + 1 := (hG.2.2.2.2.2.2.2.1 E (by omega) f3).2.2.2.2.2.2.2.2.2.2.2.2 (by omega)
      have hpE0 := (hG.2.2.2.2.2.2.2.1 E (by omega) f3).1
      have hpE1 := (hG.2.2.2.2.2.2.2.1 E (by omega) f3).2.2.1
      have heo : M.endOf (X.p g i).toNat = X.p g E := by rw [hME.2 (by rw [hste]; exact List.not_mem_nil), f1, Int.toNat_natCast]
      rw [← q2] at f7
      have f7' : y.2 :: R0 = w :: R' := f7
      have f8' : X.F g (E + 1) = y.2 :: R0 := by rw [f8, f9 ho c2, f7']; rfl
      rw [if_pos c2, if_pos (show R32 (C.ends i + 1) by rw [f1]; omega), f1] at ec
      rw [if_neg (by rw [hxo]; decide), if_pos (by rw [heo]; omega), heo, ← hpE] at er
      exact sr_go (h' := h - [y.1].length) hS (hS.1.pop (l := [y.1]) e1 (by omega) (by omega) f6 f8' k4 k1) (by omega) (fun k hk => ha k (by omega)) hm ec er
    · obtain ⟨X', f1, f2, f3, f4, f5, f6, f7, f8⟩ := at_else hSK hste hV hs hi ho c2
      have hpE : X.p g (X' + 1) = X.p g X' + 1 := (hG.2.2.2.2.2.2.2.1 X' (by omega) f3).2.2.2.2.2.2.2.2.2.2.2.2 (by omega)
      have hpE0 := (hG.2.2.2.2.2.2.2.1 X' (by omega) f3).1
      have hpE1 := (hG.2.2.2.2.2.2.2.1 X' (by omega) f3).2.2.1
      have hxo : M.elseOf (X.p g i).toNat = X.p g X' := by rw [hME.1, if_neg c2, f1, Int.toNat_natCast]
      rw [if_neg c2, if_pos (show R32 (C.elses i + 1) by rw [f1]; omega), f1] at ec
      rw [if_pos (by rw [hxo]; exact hpE0), if_pos (by rw [hxo]; omega), hxo, ← hpE] at er
      rw [← q2] at f8
      have f8' : X.F g (X' + 1) = ([], false, hdO C i) :: y.2 :: R0 := f8
      exact sr_opn (i' := X' + 1) hS f6 f8' (by rw [← q2]; rfl) hQ hT (by omega) (by omega) (by omega) (by omega) hm ec er
  · rw [if_neg c] at ec er
    exact sr_opn (i' := i + 1) hS hk q2.symm (by rw [← q2]; rfl) hQ hT (by omega) (by omega) (by omega) (by omega) hm ec er
end OPN
