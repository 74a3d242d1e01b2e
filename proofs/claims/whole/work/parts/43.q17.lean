/-! THE CODE: places, nesting, tables -/
abbrev isOp (o : Int) : Prop := 2 ≤ o ∧ o ≤ 4
/-- an instruction on the tape from p to q -/
def Dec (f : Nat → Int32) (o : Int) (v : Int64) (e : Int) (lab : Nat → Int) (lc p q : Int) : Prop := 0 ≤ p ∧ p < q ∧ q ≤ 2000 ∧ by8 (f p.toNat) = o ∧ kn o ∧ DecI f o v e lab lc (p + 1) q
/-- the class's instructions s .. i - 1 stand on the tape, one behind the other -/
def PD (f : Nat → Int32) (ops es lab : Nat → Int) (vs : Nat → Int64) (lc : Int) (s i : Nat) (pos : Nat → Int) : Prop := ∀ j, s ≤ j → j < i → Dec f (ops j) (vs j) (es j) lab lc (pos j) (pos (j + 1))
def upS (g : Nat → List Nat) (k : Nat) (l : List Nat) : Nat → List Nat := fun j => if j = k then l else g j
set_option maxRecDepth 20000 in
theorem upS_s (g : Nat → List Nat) (k : Nat) (l : List Nat) : upS g k l k = l := if_pos rfl
set_option maxRecDepth 20000 in
theorem upS_n {g : Nat → List Nat} {k j : Nat} {l : List Nat} (h : j ≠ k) : upS g k l j = g j := if_neg h
section PDS
variable {f : Nat → Int32} {ops es lab ops' es' lab' pos pos' : Nat → Int} {vs vs' : Nat → Int64} {lc lc' q : Int} {s i : Nat}
set_option maxRecDepth 20000 in
theorem DecI.cg {o : Int} {v : Int64} {e p : Int} (h : DecI f o v e lab lc p q) (hl : ∀ l : Nat, (l : Int) < lc → lab' l = lab l) (hc : lc ≤ lc') : DecI f o v e lab' lc' p q := by
  obtain ⟨h1, h2, h3, h4, h5⟩ := h
  refine ⟨h1, h2, fun ho => ?_, h4, h5⟩
  obtain ⟨n, l, q1, k1, k2, k3, k4, k5, k6⟩ := h3 ho
  exact ⟨n, l, q1, k1, k2, k3, k4, by omega, Lbl.cg (n + 1) l q1 q (fun k _ _ => hl k (by omega)) k6⟩
set_option maxRecDepth 20000 in
theorem PD.cg (h : PD f ops es lab vs lc s i pos) (ho : ∀ j, j < i → ops' j = ops j ∧ vs' j = vs j ∧ es' j = es j) (hl : ∀ l : Nat, (l : Int) < lc → lab' l = lab l) (hc : lc ≤ lc') (hp : ∀ j, s ≤ j → j ≤ i → pos' j = pos j) : PD f ops' es' lab' vs' lc' s i pos' := by
  intro j h1 h2
  obtain ⟨e1, e2, e3⟩ := ho j h2
  obtain ⟨k1, k2, k3, k4, k5, k6⟩ := h j h1 h2
  rw [e1, e2, e3, hp j h1 (by omega), hp (j + 1) (by omega) (by omega)]
  exact ⟨k1, k2, k3, k4, k5, k6.cg hl hc⟩
set_option maxRecDepth 20000 in
theorem PD.add (h : PD f ops es lab vs lc s i pos) (hd : Dec f (ops i) (vs i) (es i) lab lc (pos i) (pos (i + 1))) : PD f ops es lab vs lc s (i + 1) pos := by
  intro j h1 h2
  by_cases c : j = i
  · subst c; exact hd
  · exact h j h1 (by omega)
set_option maxRecDepth 20000 in
theorem PD.lt (h : PD f ops es lab vs lc s i pos) : ∀ (m j : Nat), s ≤ j → j + m + 1 ≤ i → pos j < pos (j + m + 1) := by
  intro m
  induction m with
  | zero => intro j h1 h2; exact (h j h1 (by omega)).2.1
  | succ m ih =>
    intro j h1 h2
    have := ih j h1 (by omega)
    have := (h (j + m + 1) (by omega) (by omega)).2.1
    show pos j < pos (j + m + 1 + 1)
    omega
set_option maxRecDepth 20000 in
theorem PD.lt' (h : PD f ops es lab vs lc s i pos) {j k : Nat} (h1 : s ≤ j) (h2 : j < k) (h3 : k ≤ i) : pos j < pos k := by
  have := h.lt (k - j - 1) j h1 (by omega)
  rwa [show j + (k - j - 1) + 1 = k by omega] at this
set_option maxRecDepth 20000 in
theorem PD.ne (h : PD f ops es lab vs lc s i pos) {j k : Nat} (h1 : s ≤ j) (h2 : j < i) (h3 : s ≤ k) (h4 : k ≤ i) (h5 : j ≠ k) (h6 : 0 ≤ pos k) : (pos j).toNat ≠ (pos k).toNat := by
  have := (h j h1 h2).1
  rcases Nat.lt_or_gt_of_ne h5 with c | c
  · have := h.lt' h1 c h4; omega
  · have := h.lt' h3 c (by omega); omega
end PDS
/-- how the stack of the open blocks goes at instruction j -/
def SKs (ops en el : Nat → Int) (stk : Nat → List Nat) (j : Nat) : Prop :=
  (isOp (ops j) → stk (j + 1) = j :: stk j) ∧ (ops j = 11 → ∃ o t, stk j = o :: t ∧ stk (j + 1) = t ∧ o < j ∧ isOp (ops o) ∧ en o = j) ∧ (ops j = 5 → ∃ o t, stk j = o :: t ∧ stk (j + 1) = stk j ∧ o < j ∧ ops o = 4 ∧ el o = j) ∧ (¬ isOp (ops j) → ops j ≠ 11 → ops j ≠ 5 → stk (j + 1) = stk j) ∧ (stk (j + 1)).length ≤ 100
/-- what the tables say of the opener o -/
def SKo (ops en el : Nat → Int) (i : Nat) (stk : Nat → List Nat) (o : Nat) : Prop :=
  (el o = -1 ∨ ∃ x : Nat, el o = x ∧ o < x ∧ x < i ∧ ops x = 5 ∧ ops o = 4 ∧ stk x = o :: stk o) ∧ (o ∉ stk i → ∃ e : Nat, en o = e ∧ o < e ∧ e < i ∧ ops e = 11 ∧ stk e = o :: stk o ∧ ∀ x : Nat, el o = x → x < e ∧ en x = e)
/-- a stack of open blocks, each above those that were open when it was opened -/
def Sfx (ops en : Nat → Int) (s i : Nat) (stk : Nat → List Nat) : List Nat → Prop
  | [] => True
  | o :: t => s ≤ o ∧ o < i ∧ isOp (ops o) ∧ en o = -1 ∧ t = stk o ∧ (∀ x, x ∈ t → x < o) ∧ Sfx ops en s i stk t
def SK (ops en el : Nat → Int) (s i : Nat) (stk : Nat → List Nat) : Prop := stk s = [] ∧ (∀ j, s ≤ j → j < i → SKs ops en el stk j) ∧ (∀ o, s ≤ o → o < i → isOp (ops o) → SKo ops en el i stk o) ∧ Sfx ops en s i stk (stk i)
section SKL
variable {ops en el ops' en' el' : Nat → Int} {s i i' : Nat} {stk stk' : Nat → List Nat}
set_option maxRecDepth 20000 in
theorem Sfx.cg : ∀ (l : List Nat), (∀ k, k ∈ l → ops' k = ops k ∧ en' k = en k ∧ stk' k = stk k) → i ≤ i' → Sfx ops en s i stk l → Sfx ops' en' s i' stk' l := by
  intro l
  induction l with
  | nil => intro _ _ _; trivial
  | cons o t ih =>
    intro h hi ⟨k1, k2, k3, k4, k5, k6, k7⟩
    obtain ⟨e1, e2, e3⟩ := h o List.mem_cons_self
    exact ⟨k1, by omega, by rw [e1]; exact k3, by rw [e2]; exact k4, by rw [e3]; exact k5, k6, ih (fun k hk => h k (List.mem_cons_of_mem _ hk)) hi k7⟩
set_option maxRecDepth 20000 in
theorem Sfx.mem : ∀ (l : List Nat), Sfx ops en s i stk l → ∀ k, k ∈ l → s ≤ k ∧ k < i ∧ isOp (ops k) ∧ en k = -1 := by
  intro l
  induction l with
  | nil => intro _ k hk; cases hk
  | cons o t ih =>
    intro ⟨k1, k2, k3, k4, k5, k6, k7⟩ k hk
    rcases List.mem_cons.mp hk with c | c
    · subst c; exact ⟨k1, k2, k3, k4⟩
    · exact ih k7 k c
set_option maxRecDepth 20000 in
theorem SK.cg (h : SK ops en el s i stk) (hs : s ≤ i) (ho : ∀ j, j < i → ops' j = ops j ∧ en' j = en j ∧ el' j = el j) (ht : ∀ j, j ≤ i → stk' j = stk j) : SK ops' en' el' s i stk' := by
  obtain ⟨h1, h2, h3, h4⟩ := h
  refine ⟨by rw [ht s hs]; exact h1, fun j a b => ?_, fun o a b c => ?_, ?_⟩
  · obtain ⟨k1, k2, k3, k4, k5⟩ := h2 j a b
    rw [SKs, (ho j b).1, ht j (by omega), ht (j + 1) (by omega)]
    refine ⟨k1, fun q => ?_, fun q => ?_, k4, k5⟩
    · obtain ⟨o, t, g1, g2, g3, g4, g5⟩ := k2 q
      exact ⟨o, t, g1, g2, g3, by rw [(ho o (by omega)).1]; exact g4, by rw [(ho o (by omega)).2.1]; exact g5⟩
    · obtain ⟨o, t, g1, g2, g3, g4, g5⟩ := k3 q
      exact ⟨o, t, g1, g2, g3, by rw [(ho o (by omega)).1]; exact g4, by rw [(ho o (by omega)).2.2]; exact g5⟩
  · rw [(ho o b).1] at c
    obtain ⟨k1, k2⟩ := h3 o a b c
    refine ⟨?_, fun q => ?_⟩
    · rw [(ho o b).2.2]
      rcases k1 with k1 | ⟨x, g1, g2, g3, g4, g5, g6⟩
      · exact Or.inl k1
      · exact Or.inr ⟨x, g1, g2, g3, by rw [(ho x g3).1]; exact g4, by rw [(ho o b).1]; exact g5, by rw [ht x (by omega), ht o (by omega)]; exact g6⟩
    · rw [ht i (by omega)] at q
      obtain ⟨e, g1, g2, g3, g4, g5, g6⟩ := k2 q
      refine ⟨e, by rw [(ho o b).2.1]; exact g1, g2, g3, by rw [(ho e g3).1]; exact g4, by rw [ht e (by omega), ht o (by omega)]; exact g5, fun x hx => ?_⟩
      rw [(ho o b).2.2] at hx
      obtain ⟨g7, g8⟩ := g6 x hx
      exact ⟨g7, by rw [(ho x (by omega)).2.1]; exact g8⟩
  · rw [ht i (by omega)]
    exact Sfx.cg _ (fun k hk => by have := (Sfx.mem _ h4 k hk).2.1; exact ⟨(ho k this).1, (ho k this).2.1, ht k (by omega)⟩) (by omega) h4
set_option maxRecDepth 20000 in
theorem SK.plain (h : SK ops en el s i stk) (a1 : ¬ isOp (ops i)) (a2 : ops i ≠ 11) (a3 : ops i ≠ 5) (a4 : stk (i + 1) = stk i) (a5 : (stk i).length ≤ 100) : SK ops en el s (i + 1) stk := by
  obtain ⟨h1, h2, h3, h4⟩ := h
  refine ⟨h1, fun j a b => ?_, fun o a b c => ?_, ?_⟩
  · by_cases q : j = i
    · subst q
      exact ⟨fun q => absurd q a1, fun q => absurd q a2, fun q => absurd q a3, fun _ _ _ => a4, by rw [a4]; exact a5⟩
    · exact h2 j a (by omega)
  · have hoi : o < i := by
      rcases Nat.lt_or_ge o i with q | q
      · exact q
      · have : o = i := by omega
        subst this; exact absurd c a1
    obtain ⟨k1, k2⟩ := h3 o a hoi c
    refine ⟨k1.imp_right (fun ⟨x, g1, g2, g3, g4⟩ => ⟨x, g1, g2, by omega, g4⟩), fun q => ?_⟩
    rw [a4] at q
    obtain ⟨e, g1, g2, g3, g4⟩ := k2 q
    exact ⟨e, g1, g2, by omega, g4⟩
  · rw [a4]; exact Sfx.cg _ (fun k _ => ⟨rfl, rfl, rfl⟩) (by omega) h4
set_option maxRecDepth 20000 in
theorem SK.opn (h : SK ops en el s i stk) (hs : s ≤ i) (a1 : isOp (ops i)) (a2 : el i = -1) (a3 : en i = -1) (a4 : stk (i + 1) = i :: stk i) (a5 : (stk i).length < 100) : SK ops en el s (i + 1) stk := by
  obtain ⟨h1, h2, h3, h4⟩ := h
  refine ⟨h1, fun j a b => ?_, fun o a b c => ?_, ?_⟩
  · by_cases q : j = i
    · subst q
      exact ⟨fun _ => a4, fun q => absurd q (by omega), fun q => absurd q (by omega), fun q => absurd a1 q, by rw [a4, List.length_cons]; omega⟩
    · exact h2 j a (by omega)
  · by_cases q : o = i
    · subst q
      exact ⟨Or.inl a2, fun q => absurd (by rw [a4]; exact List.mem_cons_self) q⟩
    · obtain ⟨k1, k2⟩ := h3 o a (by omega) c
      refine ⟨k1.imp_right (fun ⟨x, g1, g2, g3, g4⟩ => ⟨x, g1, g2, by omega, g4⟩), fun q => ?_⟩
      rw [a4] at q
      obtain ⟨e, g1, g2, g3, g4⟩ := k2 (fun m => q (List.mem_cons_of_mem _ m))
      exact ⟨e, g1, g2, by omega, g4⟩
  · rw [a4]
    exact ⟨hs, by omega, a1, a3, rfl, fun x hx => (Sfx.mem _ h4 x hx).2.1, Sfx.cg _ (fun k _ => ⟨rfl, rfl, rfl⟩) (by omega) h4⟩
set_option maxRecDepth 20000 in
theorem SK.els {o : Nat} {t : List Nat} (h : SK ops en el s i stk) (a1 : ops i = 5) (a2 : stk i = o :: t) (a3 : ops o = 4) (a6 : el o = -1) (a4 : stk (i + 1) = stk i) (a5 : (stk i).length ≤ 100) : SK ops en (updZ el o i) s (i + 1) stk := by
  obtain ⟨h1, h2, h3, h4⟩ := h
  have h4' := h4
  rw [a2] at h4'
  obtain ⟨b1, b2, b3, b4, b5, b6, b7⟩ := h4'
  refine ⟨h1, fun j a b => ?_, fun p a b c => ?_, ?_⟩
  · by_cases q : j = i
    · subst q
      exact ⟨fun q => absurd q (by omega), fun q => absurd q (by omega), fun _ => ⟨o, t, a2, a4, b2, a3, updZ_s _ _ _⟩, fun _ _ q => absurd a1 q, by rw [a4]; exact a5⟩
    · obtain ⟨k1, k2, k3, k4, k5⟩ := h2 j a (by omega)
      refine ⟨k1, k2, fun q => ?_, k4, k5⟩
      obtain ⟨p, t', g1, g2, g3, g4, g5⟩ := k3 q
      exact ⟨p, t', g1, g2, g3, g4, by rw [updZ_n (fun q => by subst q; omega)]; exact g5⟩
  · have hoi : p < i := by
      rcases Nat.lt_or_ge p i with q | q
      · exact q
      · have : p = i := by omega
        subst this; omega
    obtain ⟨k1, k2⟩ := h3 p a hoi c
    by_cases q : p = o
    · subst q
      refine ⟨Or.inr ⟨i, updZ_s _ _ _, b2, by omega, a1, a3, by rw [a2, b5]⟩, fun q => absurd (by rw [a4, a2]; exact List.mem_cons_self) q⟩
    · refine ⟨?_, fun m => ?_⟩
      · rw [updZ_n q]
        exact k1.imp_right (fun ⟨x, g1, g2, g3, g4⟩ => ⟨x, g1, g2, by omega, g4⟩)
      · rw [a4] at m
        obtain ⟨e, g1, g2, g3, g4, g5, g6⟩ := k2 m
        exact ⟨e, g1, g2, by omega, g4, g5, by rw [updZ_n q]; exact g6⟩
  · rw [a4]; exact Sfx.cg _ (fun k _ => ⟨rfl, rfl, rfl⟩) (by omega) h4
set_option maxRecDepth 20000 in
theorem SK.nd {o : Nat} {t : List Nat} (h : SK ops en el s i stk) (a1 : ops i = 11) (a2 : stk i = o :: t) (a4 : stk (i + 1) = t) (a5 : (stk i).length ≤ 100) (e1 : en' o = i) (e2 : ∀ x : Nat, el o = x → en' x = i) (e3 : ∀ k : Nat, k ≠ o → (∀ x : Nat, el o = x → k ≠ x) → en' k = en k) : SK ops en' el s (i + 1) stk := by
  obtain ⟨h1, h2, h3, h4⟩ := h
  have h4' := h4
  rw [a2] at h4'
  obtain ⟨b1, b2, b3, b4, b5, b6, b7⟩ := h4'
  have c1 : ∀ x : Nat, el o = x → ops x = 5 ∧ x < i ∧ stk x = o :: stk o := by
    intro x hx
    rcases (h3 o b1 b2 b3).1 with q | ⟨y, g1, g2, g3, g4, g5, g6⟩
    · omega
    · have : x = y := by omega
      subst this; exact ⟨g4, g3, g6⟩
  have c2 : ∀ k : Nat, k ≠ o → isOp (ops k) → en' k = en k := fun k hk ho => e3 k hk (fun x hx q => by
    subst q
    have := (c1 k hx).1; omega)
  refine ⟨h1, fun j a b => ?_, fun p a b c => ?_, ?_⟩
  · by_cases q : j = i
    · subst q
      exact ⟨fun q => absurd q (by omega), fun _ => ⟨o, t, a2, a4, b2, b3, e1⟩, fun q => absurd q (by omega), fun _ q => absurd a1 q, by rw [a4]; rw [a2, List.length_cons] at a5; omega⟩
    · obtain ⟨k1, k2, k3, k4, k5⟩ := h2 j a (by omega)
      refine ⟨k1, fun q => ?_, k3, k4, k5⟩
      obtain ⟨p, t', g1, g2, g3, g4, g5⟩ := k2 q
      exact ⟨p, t', g1, g2, g3, g4, by rw [c2 p (fun q => by subst q; omega) g4]; exact g5⟩
  · have hoi : p < i := by
      rcases Nat.lt_or_ge p i with q | q
      · exact q
      · have : p = i := by omega
        subst this; omega
    obtain ⟨k1, k2⟩ := h3 p a hoi c
    refine ⟨k1.imp_right (fun ⟨x, g1, g2, g3, g4⟩ => ⟨x, g1, g2, by omega, g4⟩), fun m => ?_⟩
    by_cases q : p = o
    · subst q
      exact ⟨i, e1, b2, by omega, a1, by rw [a2, b5], fun x hx => ⟨(c1 x hx).2.1, e2 x hx⟩⟩
    · rw [a4] at m
      obtain ⟨e, g1, g2, g3, g4, g5, g6⟩ := k2 (fun w => by
        rw [a2] at w
        rcases List.mem_cons.mp w with w | w
        · exact q w
        · exact m w)
      refine ⟨e, by rw [c2 p q c]; exact g1, g2, by omega, g4, g5, fun x hx => ?_⟩
      obtain ⟨g7, g8⟩ := g6 x hx
      refine ⟨g7, ?_⟩
      rcases k1 with k1 | ⟨y, f1, f2, f3, f4, f5, f6⟩
      · omega
      · have : x = y := by omega
        subst this
        rw [e3 x (fun w => by subst w; omega) (fun y hy w => by
          subst w
          have := (c1 x hy).2.2
          rw [f6] at this
          exact q (List.cons.inj this).1)]
        exact g8
  · rw [a4]
    exact Sfx.cg _ (fun k hk => ⟨rfl, c2 k (fun w => by subst w; exact absurd (b6 k hk) (by omega)) (Sfx.mem _ b7 k hk).2.2.1, rfl⟩) (by omega) b7
end SKL
/-- the reference's tables of ends and elses -/
def ME (ops en el : Nat → Int) (s i : Nat) (pos : Nat → Int) (stk : Nat → List Nat) (eo xo : Nat → Int) : Prop := ∀ o, s ≤ o → o < i → isOp (ops o) → (xo (pos o).toNat = if el o < 0 then -1 else pos (el o).toNat) ∧ (o ∉ stk i → eo (pos o).toNat = pos (en o).toNat)
/-- the rows of the open blocks: the class's, the reference's -/
def OPn (op bl pos : Nat → Int) : List Nat → Prop
  | [] => True
  | o :: t => op t.length = o ∧ bl t.length = pos o ∧ OPn op bl pos t
section MEL
variable {f : Nat → Int32} {ops es lab en el ops' en' el' pos pos' eo xo op bl op' bl' : Nat → Int} {vs : Nat → Int64} {lc : Int} {s i : Nat} {stk stk' : Nat → List Nat}
set_option maxRecDepth 20000 in
theorem OPn.cg : ∀ (l : List Nat), (∀ k, k < l.length → op' k = op k ∧ bl' k = bl k) → (∀ k, k ∈ l → pos' k = pos k) → OPn op bl pos l → OPn op' bl' pos' l := by
  intro l
  induction l with
  | nil => intro _ _ _; trivial
  | cons o t ih =>
    intro h hp ⟨k1, k2, k3⟩
    rw [List.length_cons] at h
    exact ⟨by rw [(h t.length (by omega)).1]; exact k1, by rw [(h t.length (by omega)).2, hp o List.mem_cons_self]; exact k2, ih (fun k hk => h k (by omega)) (fun k hk => hp k (List.mem_cons_of_mem _ hk)) k3⟩
set_option maxRecDepth 20000 in
theorem ME.cg (h : ME ops en el s i pos stk eo xo) (hk : SK ops en el s i stk) (ho : ∀ j, j < i → ops' j = ops j ∧ en' j = en j ∧ el' j = el j) (hp : ∀ j, j ≤ i → pos' j = pos j) (ht : ∀ j, j ≤ i → stk' j = stk j) : ME ops' en' el' s i pos' stk' eo xo := by
  intro o a b c
  rw [(ho o b).1] at c
  obtain ⟨k1, k2⟩ := h o a b c
  obtain ⟨g1, g2⟩ := hk.2.2.1 o a b c
  rw [(ho o b).2.2, (ho o b).2.1, hp o (by omega), ht i (by omega)]
  refine ⟨k1.trans ?_, fun q => ?_⟩
  · rcases g1 with g1 | ⟨x, g1, _, g3, _⟩
    · rw [if_pos (by omega), if_pos (by omega)]
    · rw [if_neg (by omega), if_neg (by omega), g1]; exact (hp x (by omega)).symm
  · obtain ⟨e, f1, f2, f3, _⟩ := g2 q
    rw [k2 q, f1]; exact (hp e (by omega)).symm
set_option maxRecDepth 20000 in
theorem ME.plain (h : ME ops en el s i pos stk eo xo) (a1 : ¬ isOp (ops i)) (a4 : stk (i + 1) = stk i) : ME ops en el s (i + 1) pos stk eo xo := by
  intro o a b c
  have hoi : o < i := by
    rcases Nat.lt_or_ge o i with q | q
    · exact q
    · have : o = i := by omega
      subst this; exact absurd c a1
  rw [a4]; exact h o a hoi c
set_option maxRecDepth 20000 in
theorem ME.opn (h : ME ops en el s i pos stk eo xo) (hP : PD f ops es lab vs lc s i pos) (hs : s ≤ i) (h0 : 0 ≤ pos i) (a2 : el i = -1) (a4 : stk (i + 1) = i :: stk i) : ME ops en el s (i + 1) pos stk eo (updZ xo (pos i).toNat (-1)) := by
  intro o a b c
  by_cases q : o = i
  · subst q
    exact ⟨by rw [updZ_s, if_pos (by omega)], fun q => absurd (by rw [a4]; exact List.mem_cons_self) q⟩
  · obtain ⟨k1, k2⟩ := h o a (by omega) c
    refine ⟨by rw [updZ_n (hP.ne a (by omega) hs (by omega) q h0)]; exact k1, fun m => k2 (fun w => m (by rw [a4]; exact List.mem_cons_of_mem _ w))⟩
set_option maxRecDepth 20000 in
theorem ME.els {o : Nat} {t : List Nat} (h : ME ops en el s i pos stk eo xo) (hP : PD f ops es lab vs lc s i pos) (hk : Sfx ops en s i stk (stk i)) (a1 : ops i = 5) (a2 : stk i = o :: t) (a4 : stk (i + 1) = stk i) : ME ops en (updZ el o i) s (i + 1) pos stk eo (updZ xo (pos o).toNat (pos i)) := by
  rw [a2] at hk
  obtain ⟨b1, b2, b3, b4, b5, b6, b7⟩ := hk
  intro p a b c
  have hoi : p < i := by
    rcases Nat.lt_or_ge p i with q | q
    · exact q
    · have : p = i := by omega
      subst this; omega
  obtain ⟨k1, k2⟩ := h p a hoi c
  by_cases q : p = o
  · subst q
    rw [a4]
    exact ⟨by rw [updZ_s, updZ_s, if_neg (by omega)]; rfl, k2⟩
  · rw [a4, updZ_n q, updZ_n (hP.ne a hoi b1 (by omega) q (hP o b1 b2).1)]
    exact ⟨k1, k2⟩
set_option maxRecDepth 20000 in
theorem ME.nd {o : Nat} {t : List Nat} (h : ME ops en el s i pos stk eo xo) (hP : PD f ops es lab vs lc s i pos) (hk : SK ops en el s i stk) (a1 : ops i = 11) (a2 : stk i = o :: t) (a4 : stk (i + 1) = t) (e1 : en' o = i) (e3 : ∀ k : Nat, k ≠ o → isOp (ops k) → en' k = en k) : ME ops en' el s (i + 1) pos stk (updZ eo (pos o).toNat (pos i)) xo := by
  have h4 := hk.2.2.2
  rw [a2] at h4
  obtain ⟨b1, b2, b3, b4, b5, b6, b7⟩ := h4
  intro p a b c
  have hoi : p < i := by
    rcases Nat.lt_or_ge p i with q | q
    · exact q
    · have : p = i := by omega
      subst this; omega
  obtain ⟨k1, k2⟩ := h p a hoi c
  refine ⟨k1, fun m => ?_⟩
  by_cases q : p = o
  · subst q
    rw [updZ_s, e1]; rfl
  · rw [updZ_n (hP.ne a hoi b1 (by omega) q (hP o b1 b2).1), e3 p q c]
    refine k2 (fun w => ?_)
    rw [a2] at w; rw [a4] at m
    rcases List.mem_cons.mp w with w | w
    · exact q w
    · exact m w
end MEL

/-! THE CODE: one instruction after the other -/
set_option maxRecDepth 20000 in
theorem by8_bb : ∀ y : Fin 256, by8 ((Int8.ofBitVec (BitVec.ofFin y)).toInt32) = if (Int8.ofBitVec (BitVec.ofFin y)).toInt32.toInt < 0 then (Int8.ofBitVec (BitVec.ofFin y)).toInt32.toInt + 256 else (Int8.ofBitVec (BitVec.ofFin y)).toInt32.toInt := by decide +kernel
set_option maxRecDepth 20000 in
theorem by8_B {f : Nat → Int32} (hB : BB f) (k : Nat) : by8 (f k) = if (f k).toInt < 0 then (f k).toInt + 256 else (f k).toInt := by
  have h := hB k
  have e : (f k).toInt8 = Int8.ofBitVec (BitVec.ofFin (f k).toInt8.toBitVec.toFin) := rfl
  rw [← h, e]
  exact by8_bb _
section INS
variable {fu i : Nat} {f : Nat → Int32} {a L b n r lc : Int} {ops es en el lab hs ts lt : Nat → Int} {vs : Nat → Int64} {BR : KBR} {C : KCo} {Ct : KCt}
set_option maxRecDepth 20000 in
theorem co_add {o : Int} (hi : i < 2000) : f_Co_add (KCo.mk i ops vs es en el lc lab) (KCt.mk hs ts lt) o = .ret (KCo.mk ((i + 1 : Nat) : Int) (updZ ops i o) (vp_updL vs i 0) (updZ es i 64) (updZ en i (-1)) (updZ el i (-1)) lc lab, KCt.mk (updZ hs i 0) (updZ ts i (-1)) lt, (i : Int)) := by
  have hc : (0 : Int) ≤ i ∧ (i : Int) < 2000 := by omega
  unfold f_Co_add
  simp only [if_pos hc, if_pos (show R32 ((i : Int) + 1) by omega), Int.toNat_natCast]
  rfl
set_option maxRecDepth 20000 in
theorem in_out {g : Bool} (h : g = true ∨ L ≤ a) : f_BR_readInstruction fu (KSo.mk a L g f) C Ct BR = .ret (KSo.mk a L true f, C, Ct, BR, false) := by
  unfold f_BR_readInstruction
  rw [so_octE h, obind_ret]
  rfl
set_option maxRecDepth 20000 in
theorem in_known (hfu : 20 < fu) (h0 : 0 ≤ a) (ha : a < L) (hL : L ≤ 2000) (hb : by8 (f a.toNat) = b) : f_BR_readInstruction fu (KSo.mk a L false f) C Ct BR = if kn b then obind (f_Co_add C Ct b) (fun x => if isOp b then obind (f_BR_openBlock (KSo.mk (a + 1) L false f) x.1 BR x.2.2) (fun y => .ret (y.1, y.2.1, x.2.1, y.2.2, true)) else if b = 5 then obind (f_BR_turnToElse (KSo.mk (a + 1) L false f) x.1 BR x.2.2) (fun y => .ret (y.1, y.2, x.2.1, BR, true)) else if b = 11 then obind (f_BR_closeBlock x.1 BR x.2.2) (fun y => .ret (KSo.mk (a + 1) L false f, y.1, x.2.1, y.2.1, y.2.2)) else if b = 14 then obind (f_BR_readTable fu (KSo.mk (a + 1) L false f) x.1 x.2.1 x.2.2) (fun y => .ret (y.1, y.2.1, y.2.2, BR, true)) else obind (f_BR_readImmediate fu (KSo.mk (a + 1) L false f) x.1 b x.2.2) (fun y => .ret (y.1, y.2, x.2.1, BR, true))) else .ret (KSo.mk (a + 1) L true f, C, Ct, BR, false) := by
  unfold f_BR_readInstruction
  rw [so_oct h0 ha hL, hb, obind_ret]
  dsimp only
  rw [show f_So_hasFailed (KSo.mk (a + 1) L false f) = .ret false from rfl, obind_ret]
  simp only [jp]
  rw [if_neg (show ¬ false = true from Bool.false_ne_true), isK (by omega), obind_ret]
  by_cases hk : kn b
  · rw [decide_eq_true hk, if_pos rfl, if_pos hk]
    congr 1; funext x
    by_cases c1 : isOp b
    · rw [if_pos c1]
      have : b = 2 ∨ b = 3 ∨ b = 4 := by omega
      rcases this with h | h | h
      all_goals (repeat (first | rw [if_pos h] | rw [if_neg (by omega)]))
    · rw [if_neg c1, if_neg (by omega), if_neg (by omega), if_neg (by omega)]
  · rw [decide_eq_false hk, if_neg (show ¬ false = true from Bool.false_ne_true), if_neg hk]
    rfl
set_option maxRecDepth 20000 in
theorem ra_go {z : KSo} {k n2 : Nat} (hk : k < 2000) : L73_BR_readAll fu (n2 + 1) z C Ct BR true k = obind (f_BR_readInstruction fu z C Ct BR) (fun x => L73_BR_readAll fu n2 x.1 x.2.1 x.2.2.1 x.2.2.2.1 x.2.2.2.2 ((k + 1 : Nat) : Int)) := by
  rw [L73_BR_readAll.eq_2, if_neg (by omega), if_pos rfl]
  simp only [if_pos (show R32 ((k : Int) + 1) by omega)]
  rfl
set_option maxRecDepth 20000 in
theorem ra_stop {z : KSo} {n2 : Nat} {k : Int} : L73_BR_readAll fu (n2 + 1) z C Ct BR false k = .ret (z, C, Ct, BR, false, k) := by
  rw [L73_BR_readAll.eq_2]
  by_cases h : 2000 ≤ k
  · rw [if_pos h]
  · rw [if_neg h, if_neg (show ¬ false = true from Bool.false_ne_true)]
set_option maxRecDepth 20000 in
theorem ra_dead {g : Bool} {n2 k : Nat} (hn : 2 ≤ n2) : Dd a L f (fun _ => True) (L73_BR_readAll fu n2 (KSo.mk a L true f) C Ct BR g k) := by
  obtain ⟨n2, rfl⟩ : ∃ q, n2 = q + 1 + 1 := ⟨n2 - 2, by omega⟩
  cases g with
  | false => rw [ra_stop]; exact Dd.ret trivial
  | true =>
    by_cases h : k < 2000
    · rw [ra_go h, in_out (Or.inl rfl), obind_ret, ra_stop]; exact Dd.ret trivial
    · rw [L73_BR_readAll.eq_2, if_pos (by omega)]; exact Dd.ret trivial
end INS
section MDS
variable {fu n1 o : Nat} {f : Nat → Int32} {a L b n r vf : Int} {bl eo xo : Nat → Int} {M : KMe} {x1 : KRf × KMc × Int64} {y15 : KRf × KMc × KMj × KMl × Int} {t : KMt}
set_option maxRecDepth 20000 in
theorem md_out (h : L ≤ a) : ∃ u, L207_Mo_codeOf fu t vf x1 y15 (n1 + 1) r (KMc.mk a L) bl M o = .thr u ∧ u.1 = 1 := by
  rw [L207_Mo_codeOf.eq_2, mo_oneE h, obind2_thr]
  exact ⟨_, rfl, rfl⟩
set_option maxRecDepth 20000 in
theorem md_imm (h0 : 0 ≤ a) (ha : a < L) (hL : L ≤ 2000) (hb : by8 (f a.toNat) = b) (h1 : ¬ isOp b) (h5 : b ≠ 5) (h11 : b ≠ 11) : ∃ E : KRf × KMc → KRf × KMc × KMk × KMj × KMl × KMe, (∀ x, (E x).1 = x.1) ∧ L207_Mo_codeOf fu (KMt.mk f n) vf x1 y15 (n1 + 1) r (KMc.mk a L) bl M o = obind2 (f_Mo_immediates fu r (KMc.mk (a + 1) L) (KMt.mk f n) b) (fun x => L207_Mo_codeOf fu (KMt.mk f n) vf x1 y15 n1 x.1 x.2 bl M o) (fun x => .thr (E x)) := by
  rw [L207_Mo_codeOf.eq_2, mo_one h0 ha hL, hb, obind2_ret]
  simp only [jp, if_neg h5, if_neg h11]
  have : b < 2 ∨ (¬ b < 2 ∧ 4 < b) := by omega
  rcases this with h | ⟨h, h'⟩
  · rw [if_pos h]; exact ⟨fun x => (x.1, x.2, bl, KMj.mk y15.2.2.1.codes (updZ y15.2.2.1.codeAt vf.toNat y15.2.1.cursor) (updZ y15.2.2.1.codeEnd vf.toNat (((iI x1.2.1.cursor) + x1.2.2.toInt32).toInt)) y15.2.2.1.localCount, y15.2.2.2.1, M), fun _ => rfl, rfl⟩
  · rw [if_neg h, if_pos h']; exact ⟨fun x => (x.1, x.2, bl, KMj.mk y15.2.2.1.codes (updZ y15.2.2.1.codeAt vf.toNat y15.2.1.cursor) (updZ y15.2.2.1.codeEnd vf.toNat (((iI x1.2.1.cursor) + x1.2.2.toInt32).toInt)) y15.2.2.1.localCount, y15.2.2.2.1, M), fun _ => rfl, rfl⟩
set_option maxRecDepth 20000 in
theorem md_open (h0 : 0 ≤ a) (ha : a < L) (hL : L ≤ 2000) (hb : by8 (f a.toNat) = b) (h1 : isOp b) : ∃ E : KRf × KMc → KRf × KMc × KMk × KMj × KMl × KMe, (∀ x, (E x).1 = x.1) ∧ L207_Mo_codeOf fu (KMt.mk f n) vf x1 y15 (n1 + 1) r (KMc.mk a L) bl (KMe.mk eo xo) o = obind2 (f_Mo_one r (KMc.mk (a + 1) L) (KMt.mk f n)) (fun x => if (x.2.2 = 64 ∨ x.2.2 = 127 ∨ x.2.2 = 126) ∧ o < 100 then L207_Mo_codeOf fu (KMt.mk f n) vf x1 y15 n1 x.1 x.2.1 (updZ bl o a) (KMe.mk eo (updZ xo a.toNat (-1))) ((o + 1 : Nat) : Int) else .thr (E (1, x.2.1))) (fun x => .thr (E x)) := by
  rw [L207_Mo_codeOf.eq_2, mo_one h0 ha hL, hb, obind2_ret]
  simp only [jp]
  rw [if_neg (by omega), if_neg (by omega)]
  refine ⟨fun x => (x.1, x.2, bl, KMj.mk y15.2.2.1.codes (updZ y15.2.2.1.codeAt vf.toNat y15.2.1.cursor) (updZ y15.2.2.1.codeEnd vf.toNat (((iI x1.2.1.cursor) + x1.2.2.toInt32).toInt)) y15.2.2.1.localCount, y15.2.2.2.1, KMe.mk eo xo), fun _ => rfl, ?_⟩
  dsimp only
  congr 1; funext x
  have tail : ∀ y : Out (KRf × KMc × KMk × KMj × KMl × KMe) (KRf × KMc × KMk × KMe × Int), (if 100 ≤ (o : Int) then obind2 (f_Mo_read x.1 false) (fun (x_76 : KRf) => y) (fun (x_76 : KRf) => (.thr (x_76, x.2.1, bl, KMj.mk y15.2.2.1.codes (updZ y15.2.2.1.codeAt vf.toNat y15.2.1.cursor) (updZ y15.2.2.1.codeEnd vf.toNat (((iI x1.2.1.cursor) + x1.2.2.toInt32).toInt)) y15.2.2.1.localCount, y15.2.2.2.1, KMe.mk eo xo) : Out (KRf × KMc × KMk × KMj × KMl × KMe) (KRf × KMc × KMk × KMe × Int))) else y) = if o < 100 then y else .thr (1, x.2.1, bl, KMj.mk y15.2.2.1.codes (updZ y15.2.2.1.codeAt vf.toNat y15.2.1.cursor) (updZ y15.2.2.1.codeEnd vf.toNat (((iI x1.2.1.cursor) + x1.2.2.toInt32).toInt)) y15.2.2.1.localCount, y15.2.2.2.1, KMe.mk eo xo) := by
    intro y
    by_cases c : o < 100
    · rw [if_neg (by omega), if_pos c]
    · rw [if_pos (by omega), if_neg c]; rfl
  by_cases c : x.2.2 = 64 ∨ x.2.2 = 127 ∨ x.2.2 = 126
  · have e : (if (x.2.2 = 64 ∨ x.2.2 = 127 ∨ x.2.2 = 126) ∧ o < 100 then L207_Mo_codeOf fu (KMt.mk f n) vf x1 y15 n1 x.1 x.2.1 (updZ bl o a) (KMe.mk eo (updZ xo a.toNat (-1))) ((o + 1 : Nat) : Int) else .thr (1, x.2.1, bl, KMj.mk y15.2.2.1.codes (updZ y15.2.2.1.codeAt vf.toNat y15.2.1.cursor) (updZ y15.2.2.1.codeEnd vf.toNat (((iI x1.2.1.cursor) + x1.2.2.toInt32).toInt)) y15.2.2.1.localCount, y15.2.2.2.1, KMe.mk eo xo)) = if o < 100 then L207_Mo_codeOf fu (KMt.mk f n) vf x1 y15 n1 x.1 x.2.1 (updZ bl o a) (KMe.mk eo (updZ xo a.toNat (-1))) ((o + 1 : Nat) : Int) else .thr (1, x.2.1, bl, KMj.mk y15.2.2.1.codes (updZ y15.2.2.1.codeAt vf.toNat y15.2.1.cursor) (updZ y15.2.2.1.codeEnd vf.toNat (((iI x1.2.1.cursor) + x1.2.2.toInt32).toInt)) y15.2.2.1.localCount, y15.2.2.2.1, KMe.mk eo xo) := by
      by_cases c2 : o < 100
      · rw [if_pos ⟨c, c2⟩, if_pos c2]
      · rw [if_neg (fun q => c2 q.2), if_neg c2]
    refine Eq.trans ?_ e.symm
    have tail2 : ∀ y : Out (KRf × KMc × KMk × KMj × KMl × KMe) (KRf × KMc × KMk × KMe × Int), (if x.2.2 = 64 then y else if x.2.2 = 127 then y else if x.2.2 = 126 then y else obind2 (f_Mo_read x.1 false) (fun _ => y) (fun (x_72 : KRf) => .thr (x_72, x.2.1, bl, KMj.mk y15.2.2.1.codes (updZ y15.2.2.1.codeAt vf.toNat y15.2.1.cursor) (updZ y15.2.2.1.codeEnd vf.toNat (((iI x1.2.1.cursor) + x1.2.2.toInt32).toInt)) y15.2.2.1.localCount, y15.2.2.2.1, KMe.mk eo xo))) = y := by
      intro y
      by_cases d1 : x.2.2 = 64
      · rw [if_pos d1]
      · by_cases d2 : x.2.2 = 127
        · rw [if_neg d1, if_pos d2]
        · rw [if_neg d1, if_neg d2, if_pos (by omega)]
    refine Eq.trans ?_ (tail _)
    refine Eq.trans ?_ (tail2 _)
    by_cases c2 : o < 100
    · have hr : R32 ((o : Int) + 1) := by omega
      simp only [mo_read, obind2_ret, if_neg (show ¬ 100 ≤ (o : Int) by omega), if_pos (show 0 ≤ (o : Int) ∧ (o : Int) < 100 by omega), if_pos (show 0 ≤ a ∧ a < 2000 by omega), if_pos hr, Int.toNat_natCast]
      rfl
    · simp only [mo_read, obind2_ret, if_pos (show 100 ≤ (o : Int) by omega)]
      rfl
  · rw [if_neg (show ¬ ((x.2.2 = 64 ∨ x.2.2 = 127 ∨ x.2.2 = 126) ∧ o < 100) from fun q => c q.1), if_neg (by omega), if_neg (by omega), if_neg (by omega)]
    rfl
set_option maxRecDepth 20000 in
theorem md_else (h0 : 0 ≤ a) (ha : a < L) (hL : L ≤ 2000) (hb : by8 (f a.toNat) = 5) : ∃ u, u.1 = 1 ∧ (o = 0 → L207_Mo_codeOf fu (KMt.mk f n) vf x1 y15 (n1 + 1) r (KMc.mk a L) bl (KMe.mk eo xo) o = .thr u) ∧ (∀ m, o = m + 1 → m < 100 → 0 ≤ bl m → bl m < 2000 → L207_Mo_codeOf fu (KMt.mk f n) vf x1 y15 (n1 + 1) r (KMc.mk a L) bl (KMe.mk eo xo) o = if (f (bl m).toNat).toInt = 4 ∧ xo (bl m).toNat < 0 then L207_Mo_codeOf fu (KMt.mk f n) vf x1 y15 n1 r (KMc.mk (a + 1) L) bl (KMe.mk eo (updZ xo (bl m).toNat a)) o else .thr u) := by
  rw [L207_Mo_codeOf.eq_2, mo_one h0 ha hL, hb, obind2_ret]
  simp only [jp]
  rw [if_neg (by decide), if_pos (by decide), if_pos trivial]
  refine ⟨(1, KMc.mk (a + 1) L, bl, KMj.mk y15.2.2.1.codes (updZ y15.2.2.1.codeAt vf.toNat y15.2.1.cursor) (updZ y15.2.2.1.codeEnd vf.toNat (((iI x1.2.1.cursor) + x1.2.2.toInt32).toInt)) y15.2.2.1.localCount, y15.2.2.2.1, KMe.mk eo xo), rfl, ?_, ?_⟩
  · intro h; subst h; rfl
  · intro m h hm k1 k2
    subst h
    have e : (((m + 1 : Nat) : Int) - 1).toNat = m := by omega
    have hr : R32 (((m + 1 : Nat) : Int) - 1) := by omega
    have hc : 0 ≤ ((m + 1 : Nat) : Int) - 1 ∧ ((m + 1 : Nat) : Int) - 1 < 100 := by omega
    rw [if_neg (by omega)]
    simp only [if_pos hr, if_pos hc, e]
    have hd : 0 ≤ KMk.blocks bl m ∧ KMk.blocks bl m < 2000 := ⟨k1, k2⟩
    simp only [if_pos hd]
    by_cases c1 : (f (bl m).toNat).toInt = 4
    · rw [if_pos (show ((KMt.mk f n).bytes (KMk.blocks bl m).toNat).toInt = 4 from c1)]
      by_cases c2 : xo (bl m).toNat < 0
      · rw [if_neg (show ¬ 0 ≤ (KMe.mk eo xo).elseOf (KMk.blocks bl m).toNat by show ¬ 0 ≤ xo (bl m).toNat; omega), if_pos ⟨c1, c2⟩]
        rfl
      · rw [if_pos (show 0 ≤ (KMe.mk eo xo).elseOf (KMk.blocks bl m).toNat by show 0 ≤ xo (bl m).toNat; omega), if_neg (fun q => c2 q.2)]
        rfl
    · rw [if_neg (show ¬ ((KMt.mk f n).bytes (KMk.blocks bl m).toNat).toInt = 4 from c1), if_neg (fun q => c1 q.1)]
      rfl
set_option maxRecDepth 20000 in
theorem md_end0 (h0 : 0 ≤ a) (ha : a < L) (hL : L ≤ 2000) (hb : by8 (f a.toNat) = 11) : L207_Mo_codeOf fu (KMt.mk f n) vf x1 y15 (n1 + 1) r (KMc.mk a L) bl M 0 = .ret (r, KMc.mk (a + 1) L, bl, M, 0) := by
  rw [L207_Mo_codeOf.eq_2, mo_one h0 ha hL, hb, obind2_ret]
  rfl
set_option maxRecDepth 20000 in
theorem md_end {m : Nat} (h0 : 0 ≤ a) (ha : a < L) (hL : L ≤ 2000) (hb : by8 (f a.toNat) = 11) (hm : m < 100) (k1 : 0 ≤ bl m) (k2 : bl m < 2000) : L207_Mo_codeOf fu (KMt.mk f n) vf x1 y15 (n1 + 1) r (KMc.mk a L) bl (KMe.mk eo xo) ((m + 1 : Nat) : Int) = L207_Mo_codeOf fu (KMt.mk f n) vf x1 y15 n1 r (KMc.mk (a + 1) L) bl (KMe.mk (updZ eo (bl m).toNat a) xo) m := by
  rw [L207_Mo_codeOf.eq_2, mo_one h0 ha hL, hb, obind2_ret]
  simp only [jp]
  have e : (((m + 1 : Nat) : Int) + (-1)).toNat = m := by omega
  have e' : (((m + 1 : Nat) : Int) + (-1)) = m := by omega
  have hr : R32 (((m + 1 : Nat) : Int) + (-1)) := by omega
  have hc : 0 ≤ ((m + 1 : Nat) : Int) + (-1) ∧ ((m + 1 : Nat) : Int) + (-1) < 100 := by omega
  have hd : 0 ≤ KMk.blocks bl m ∧ KMk.blocks bl m < 2000 := ⟨k1, k2⟩
  rw [if_neg (by decide), if_pos (by decide), if_neg (by decide), if_pos trivial, if_neg (by omega), if_pos hr, if_pos hc, e, if_pos hd, e']
end MDS

/-! THE CODE: a body, in step -/
/-- what is not of this body stays -/
def FrC (s : Nat) (p0 : Int) (C0 : KCo) (M0 : KMe) (ops es en el lab : Nat → Int) (vs : Nat → Int64) (lc : Int) (eo xo : Nat → Int) : Prop :=
  (∀ j, j < s → ops j = C0.ops j ∧ vs j = C0.values j ∧ es j = C0.extras j ∧ en j = C0.ends j ∧ el j = C0.elses j) ∧ (∀ l : Nat, (l : Int) < C0.labelCount → lab l = C0.labels l) ∧ C0.labelCount ≤ lc ∧ ∀ p : Nat, (p : Int) < p0 → eo p = M0.endOf p ∧ xo p = M0.elseOf p
/-- in the midst of a body -/
def LInv (f : Nat → Int32) (s : Nat) (p0 : Int) (C0 : KCo) (M0 : KMe) (i : Nat) (a : Int) (ops es en el lab op bl eo xo pos : Nat → Int) (vs : Nat → Int64) (lc : Int) (stk : Nat → List Nat) : Prop :=
  s ≤ i ∧ (i : Int) ≤ a ∧ pos s = p0 ∧ pos i = a ∧ PD f ops es lab vs lc s i pos ∧ SK ops en el s i stk ∧ ME ops en el s i pos stk eo xo ∧ OPn op bl pos (stk i) ∧ (stk i).length ≤ 100 ∧ FrC s p0 C0 M0 ops es en el lab vs lc eo xo
section LIV
variable {f : Nat → Int32} {s i : Nat} {p0 a q b : Int} {C0 : KCo} {M0 : KMe} {ops es en el lab lab' op bl eo xo pos : Nat → Int} {vs : Nat → Int64} {lc lc' : Int} {stk : Nat → List Nat}
set_option maxRecDepth 20000 in
theorem PD.le (h : PD f ops es lab vs lc s i pos) {j k : Nat} (h1 : s ≤ j) (h2 : j ≤ k) (h3 : k ≤ i) : pos j ≤ pos k := by
  rcases Nat.lt_or_ge j k with c | c
  · have := h.lt' h1 c h3; omega
  · have : j = k := by omega
    subst this; exact Int.le_refl _
set_option maxRecDepth 20000 in
theorem upd_ag {g : Nat → Int} {x : Int} : ∀ j, j < i → updZ g i x j = g j := fun j h => updZ_n (by omega)
set_option maxRecDepth 20000 in
theorem LInv.imm {v : Int64} {e e0 : Int} {v0 : Int64} (h : LInv f s p0 C0 M0 i a ops es en el lab op bl eo xo pos vs lc stk) (h0 : 0 ≤ a) (hb : by8 (f a.toNat) = b) (hk : kn b) (h1 : ¬ isOp b) (h5 : b ≠ 5) (h11 : b ≠ 11) (hq : a + 1 ≤ q) (hq2 : q ≤ 2000) (hd : DecI f b v e lab' lc' (a + 1) q) (hl : ∀ l : Nat, (l : Int) < lc → lab' l = lab l) (hc : lc ≤ lc') : LInv f s p0 C0 M0 (i + 1) q (updZ ops i b) (updZ (updZ es i e0) i e) (updZ en i (-1)) (updZ el i (-1)) lab' op bl eo xo (updZ pos (i + 1) q) (vp_updL (vp_updL vs i v0) i v) lc' (upS stk (i + 1) (stk i)) := by
  obtain ⟨k1, k2, k3, k4, k5, k6, k7, k8, k9, f1, f2, f3, f4⟩ := h
  have ag : ∀ j, j < i → updZ ops i b j = ops j ∧ updZ en i (-1) j = en j ∧ updZ el i (-1) j = el j := fun j h => ⟨upd_ag j h, upd_ag j h, upd_ag j h⟩
  have agt : ∀ j, j ≤ i → upS stk (i + 1) (stk i) j = stk j := fun j h => upS_n (by omega)
  have agp : ∀ j, j ≤ i → updZ pos (i + 1) q j = pos j := fun j h => updZ_n (by omega)
  have e1 : updZ ops i b i = b := updZ_s _ _ _
  have e2 : upS stk (i + 1) (stk i) (i + 1) = upS stk (i + 1) (stk i) i := by rw [upS_s, upS_n (by omega)]
  have kc := k6.cg k1 ag agt
  have mc := k7.cg k6 ag agp agt
  refine ⟨by omega, by omega, by rw [agp s k1]; exact k3, updZ_s _ _ _, ?_, ?_, ?_, ?_, ?_, ?_, ?_, ?_, ?_⟩
  · refine PD.add (k5.cg (fun j h => ⟨upd_ag j h, by rw [updL_n (by omega), updL_n (by omega)], by rw [updZ_n (by omega), updZ_n (by omega)]⟩) hl hc (fun j _ h => agp j h)) ?_
    rw [e1, updL_s, updZ_s, updZ_s, agp i (by omega), k4]
    exact ⟨h0, by omega, hq2, hb, hk, hd⟩
  · exact kc.plain (by rw [e1]; exact h1) (by rw [e1]; exact h11) (by rw [e1]; exact h5) e2 (by rw [upS_n (by omega)]; exact k9)
  · exact mc.plain (by rw [e1]; exact h1) e2
  · rw [upS_s]
    exact OPn.cg _ (fun _ _ => ⟨rfl, rfl⟩) (fun k hk => agp k (by have := (Sfx.mem _ k6.2.2.2 k hk).2.1; omega)) k8
  · rw [upS_s]; exact k9
  · intro j hj
    obtain ⟨g1, g2, g3, g4, g5⟩ := f1 j hj
    exact ⟨by rw [updZ_n (by omega)]; exact g1, by rw [updL_n (by omega), updL_n (by omega)]; exact g2, by rw [updZ_n (by omega), updZ_n (by omega)]; exact g3, by rw [updZ_n (by omega)]; exact g4, by rw [updZ_n (by omega)]; exact g5⟩
  · intro l hl2; rw [hl l (by omega)]; exact f2 l hl2
  · omega
  · exact f4
set_option maxRecDepth 20000 in
theorem LInv.opn {e : Int} {v0 : Int64} {e0 : Int} (h : LInv f s p0 C0 M0 i a ops es en el lab op bl eo xo pos vs lc stk) (h0 : 0 ≤ a) (hb : by8 (f a.toNat) = b) (h1 : isOp b) (hq2 : a + 2 ≤ 2000) (he : e = by8 (f (a + 1).toNat)) (he2 : e = 64 ∨ e = 127 ∨ e = 126) (hl : (stk i).length < 100) : LInv f s p0 C0 M0 (i + 1) (a + 2) (updZ ops i b) (updZ (updZ es i e0) i e) (updZ en i (-1)) (updZ el i (-1)) lab (updZ op (stk i).length i) (updZ bl (stk i).length a) eo (updZ xo a.toNat (-1)) (updZ pos (i + 1) (a + 2)) (vp_updL vs i v0) lc (upS stk (i + 1) (i :: stk i)) := by
  obtain ⟨k1, k2, k3, k4, k5, k6, k7, k8, k9, f1, f2, f3, f4⟩ := h
  have ag : ∀ j, j < i → updZ ops i b j = ops j ∧ updZ en i (-1) j = en j ∧ updZ el i (-1) j = el j := fun j h => ⟨upd_ag j h, upd_ag j h, upd_ag j h⟩
  have agt : ∀ j, j ≤ i → upS stk (i + 1) (i :: stk i) j = stk j := fun j h => upS_n (by omega)
  have agp : ∀ j, j ≤ i → updZ pos (i + 1) (a + 2) j = pos j := fun j h => updZ_n (by omega)
  have e1 : updZ ops i b i = b := updZ_s _ _ _
  have e2 : upS stk (i + 1) (i :: stk i) (i + 1) = i :: upS stk (i + 1) (i :: stk i) i := by rw [upS_s, upS_n (by omega)]
  have kc := k6.cg k1 ag agt
  have mc := k7.cg k6 ag agp agt
  have pc : PD f (updZ ops i b) (updZ (updZ es i e0) i e) lab (vp_updL vs i v0) lc s i (updZ pos (i + 1) (a + 2)) := k5.cg (fun j h => ⟨upd_ag j h, by rw [updL_n (by omega)], by rw [updZ_n (by omega), updZ_n (by omega)]⟩) (fun _ _ => rfl) (Int.le_refl _) (fun j _ h => agp j h)
  have ep : updZ pos (i + 1) (a + 2) i = a := by rw [agp i (by omega), k4]
  have hsa : p0 ≤ a := by rw [← k3, ← k4]; exact k5.le (by omega) k1 (by omega)
  refine ⟨by omega, by omega, by rw [agp s k1]; exact k3, updZ_s _ _ _, ?_, ?_, ?_, ?_, ?_, ?_, f2, f3, ?_⟩
  · refine PD.add pc ?_
    rw [e1, updL_s, updZ_s, updZ_s, ep]
    refine ⟨h0, by omega, hq2, hb, by omega, fun _ => ⟨by omega, he, he2⟩, fun h => absurd h (by omega), fun h => absurd h (by omega), fun h => absurd h (by omega), fun h => absurd h (by omega), fun h => absurd h (by omega), fun h => absurd h (by omega), fun h => absurd h (by omega)⟩
  · exact kc.opn k1 (by rw [e1]; exact h1) (updZ_s _ _ _) (updZ_s _ _ _) e2 (by rw [upS_n (by omega)]; exact hl)
  · have := mc.opn pc k1 (by rw [ep]; exact h0) (updZ_s _ _ _) e2
    rw [ep] at this; exact this
  · rw [upS_s]
    refine ⟨updZ_s _ _ _, ?_, OPn.cg _ (fun k hk => ⟨updZ_n (by omega), updZ_n (by omega)⟩) (fun k hk => agp k (by have := (Sfx.mem _ k6.2.2.2 k hk).2.1; omega)) k8⟩
    rw [ep, updZ_s]
  · rw [upS_s, List.length_cons]; omega
  · intro j hj
    obtain ⟨g1, g2, g3, g4, g5⟩ := f1 j hj
    exact ⟨by rw [updZ_n (by omega)]; exact g1, by rw [updL_n (by omega)]; exact g2, by rw [updZ_n (by omega), updZ_n (by omega)]; exact g3, by rw [updZ_n (by omega)]; exact g4, by rw [updZ_n (by omega)]; exact g5⟩
  · intro p hp
    exact ⟨(f4 p hp).1, by rw [updZ_n (by omega)]; exact (f4 p hp).2⟩
set_option maxRecDepth 20000 in
theorem LInv.els {o : Nat} {t : List Nat} {v0 : Int64} {e0 : Int} (h : LInv f s p0 C0 M0 i a ops es en el lab op bl eo xo pos vs lc stk) (h0 : 0 ≤ a) (hb : by8 (f a.toNat) = 5) (hq2 : a + 1 ≤ 2000) (ht : stk i = o :: t) (h4 : ops o = 4) (hx : el o = -1) : LInv f s p0 C0 M0 (i + 1) (a + 1) (updZ ops i 5) (updZ es i e0) (updZ en i (-1)) (updZ (updZ el i (-1)) o i) lab op bl eo (updZ xo (pos o).toNat a) (updZ pos (i + 1) (a + 1)) (vp_updL vs i v0) lc (upS stk (i + 1) (stk i)) := by
  obtain ⟨k1, k2, k3, k4, k5, k6, k7, k8, k9, f1, f2, f3, f4⟩ := h
  have ag : ∀ j, j < i → updZ ops i 5 j = ops j ∧ updZ en i (-1) j = en j ∧ updZ el i (-1) j = el j := fun j h => ⟨upd_ag j h, upd_ag j h, upd_ag j h⟩
  have agt : ∀ j, j ≤ i → upS stk (i + 1) (stk i) j = stk j := fun j h => upS_n (by omega)
  have agp : ∀ j, j ≤ i → updZ pos (i + 1) (a + 1) j = pos j := fun j h => updZ_n (by omega)
  have e1 : updZ ops i 5 i = 5 := updZ_s _ _ _
  have e2 : upS stk (i + 1) (stk i) (i + 1) = upS stk (i + 1) (stk i) i := by rw [upS_s, upS_n (by omega)]
  have e3 : upS stk (i + 1) (stk i) i = o :: t := by rw [upS_n (by omega)]; exact ht
  have hS := k6.2.2.2
  rw [ht] at hS
  obtain ⟨b1, b2, b3, b4, b5, b6, b7⟩ := hS
  have kc := k6.cg k1 ag agt
  have mc := k7.cg k6 ag agp agt
  have pc : PD f (updZ ops i 5) (updZ es i e0) lab (vp_updL vs i v0) lc s i (updZ pos (i + 1) (a + 1)) := k5.cg (fun j h => ⟨upd_ag j h, by rw [updL_n (by omega)], by rw [updZ_n (by omega)]⟩) (fun _ _ => rfl) (Int.le_refl _) (fun j _ h => agp j h)
  have ep : updZ pos (i + 1) (a + 1) i = a := by rw [agp i (by omega), k4]
  have epo : updZ pos (i + 1) (a + 1) o = pos o := agp o (by omega)
  have hso : p0 ≤ pos o := by rw [← k3]; exact k5.le (by omega) b1 (by omega)
  have h0o := (k5 o b1 b2).1
  refine ⟨by omega, by omega, by rw [agp s k1]; exact k3, updZ_s _ _ _, ?_, ?_, ?_, ?_, ?_, ?_, f2, f3, ?_⟩
  · refine PD.add pc ?_
    rw [e1, updL_s, updZ_s, updZ_s, ep]
    refine ⟨h0, by omega, hq2, hb, by omega, fun h => absurd h (by omega), fun h => absurd h (by omega), fun h => absurd h (by omega), fun h => absurd h (by omega), fun h => absurd h (by omega), fun h => absurd h (by omega), fun h => absurd h (by omega), fun _ => rfl⟩
  · exact kc.els e1 e3 (by rw [updZ_n (by omega)]; exact h4) (by rw [updZ_n (by omega)]; exact hx) e2 (by rw [upS_n (by omega)]; exact k9)
  · have := mc.els pc kc.2.2.2 e1 e3 e2
    rw [ep, epo] at this; exact this
  · rw [upS_s]
    exact OPn.cg _ (fun _ _ => ⟨rfl, rfl⟩) (fun k hk => agp k (by have := (Sfx.mem _ k6.2.2.2 k hk).2.1; omega)) k8
  · rw [upS_s]; exact k9
  · intro j hj
    obtain ⟨g1, g2, g3, g4, g5⟩ := f1 j hj
    exact ⟨by rw [updZ_n (by omega)]; exact g1, by rw [updL_n (by omega)]; exact g2, by rw [updZ_n (by omega)]; exact g3, by rw [updZ_n (by omega)]; exact g4, by rw [updZ_n (by omega), updZ_n (by omega)]; exact g5⟩
  · intro p hp
    exact ⟨(f4 p hp).1, by rw [updZ_n (by omega)]; exact (f4 p hp).2⟩
set_option maxRecDepth 20000 in
theorem LInv.nd {o : Nat} {t : List Nat} {v0 : Int64} {e0 : Int} {en' : Nat → Int} (h : LInv f s p0 C0 M0 i a ops es en el lab op bl eo xo pos vs lc stk) (h0 : 0 ≤ a) (hb : by8 (f a.toNat) = 11) (hq2 : a + 1 ≤ 2000) (ht : stk i = o :: t) (e1' : en' o = i) (e2' : ∀ x : Nat, el o = x → en' x = i) (e3' : ∀ k : Nat, k ≠ o → (∀ x : Nat, el o = x → k ≠ x) → en' k = updZ en i (-1) k) : LInv f s p0 C0 M0 (i + 1) (a + 1) (updZ ops i 11) (updZ es i e0) en' (updZ el i (-1)) lab op bl (updZ eo (pos o).toNat a) xo (updZ pos (i + 1) (a + 1)) (vp_updL vs i v0) lc (upS stk (i + 1) t) := by
  obtain ⟨k1, k2, k3, k4, k5, k6, k7, k8, k9, f1, f2, f3, f4⟩ := h
  have ag : ∀ j, j < i → updZ ops i 11 j = ops j ∧ updZ en i (-1) j = en j ∧ updZ el i (-1) j = el j := fun j h => ⟨upd_ag j h, upd_ag j h, upd_ag j h⟩
  have agt : ∀ j, j ≤ i → upS stk (i + 1) t j = stk j := fun j h => upS_n (by omega)
  have agp : ∀ j, j ≤ i → updZ pos (i + 1) (a + 1) j = pos j := fun j h => updZ_n (by omega)
  have e1 : updZ ops i 11 i = 11 := updZ_s _ _ _
  have e2 : upS stk (i + 1) t (i + 1) = t := upS_s _ _ _
  have e3 : upS stk (i + 1) t i = o :: t := by rw [upS_n (by omega)]; exact ht
  have hS := k6.2.2.2
  rw [ht] at hS
  obtain ⟨b1, b2, b3, b4, b5, b6, b7⟩ := hS
  have kc := k6.cg k1 ag agt
  have mc := k7.cg k6 ag agp agt
  have pc : PD f (updZ ops i 11) (updZ es i e0) lab (vp_updL vs i v0) lc s i (updZ pos (i + 1) (a + 1)) := k5.cg (fun j h => ⟨upd_ag j h, by rw [updL_n (by omega)], by rw [updZ_n (by omega)]⟩) (fun _ _ => rfl) (Int.le_refl _) (fun j _ h => agp j h)
  have ep : updZ pos (i + 1) (a + 1) i = a := by rw [agp i (by omega), k4]
  have epo : updZ pos (i + 1) (a + 1) o = pos o := agp o (by omega)
  have hso : p0 ≤ pos o := by rw [← k3]; exact k5.le (by omega) b1 (by omega)
  have h0o := (k5 o b1 b2).1
  have elo : updZ el i (-1) o = el o := updZ_n (by omega)
  have xo5 : ∀ x : Nat, el o = x → o < x ∧ x < i ∧ ops x = 5 := by
    intro x hx
    rcases (k6.2.2.1 o b1 b2 b3).1 with q | ⟨y, g1, g2, g3, g4, g5, g6⟩
    · omega
    · have : x = y := by omega
      subst this; exact ⟨g2, g3, g4⟩
  have kn' := kc.nd (en' := en') e1 e3 e2 (by rw [upS_n (by omega)]; exact k9) e1' (by rw [elo]; exact e2') (by rw [elo]; exact e3')
  refine ⟨by omega, by omega, by rw [agp s k1]; exact k3, updZ_s _ _ _, ?_, kn', ?_, ?_, ?_, ?_, f2, f3, ?_⟩
  · refine PD.add pc ?_
    rw [e1, updL_s, updZ_s, updZ_s, ep]
    refine ⟨h0, by omega, hq2, hb, by omega, fun h => absurd h (by omega), fun h => absurd h (by omega), fun h => absurd h (by omega), fun h => absurd h (by omega), fun h => absurd h (by omega), fun h => absurd h (by omega), fun h => absurd h (by omega), fun _ => rfl⟩
  · have := mc.nd (en' := en') pc kc e1 e3 e2 e1' (fun k hk ho => e3' k hk (fun x hx q => by
      subst q
      have := (xo5 k hx).2.2
      rw [updZ_n (by have := (xo5 k hx).2.1; omega)] at ho; omega))
    rw [ep, epo] at this; exact this
  · rw [upS_s]
    rw [ht] at k8
    exact OPn.cg _ (fun _ _ => ⟨rfl, rfl⟩) (fun k hk => agp k (by have := (Sfx.mem _ b7 k hk).2.1; omega)) k8.2.2
  · rw [upS_s]; rw [ht, List.length_cons] at k9; omega
  · intro j hj
    obtain ⟨g1, g2, g3, g4, g5⟩ := f1 j hj
    exact ⟨by rw [updZ_n (by omega)]; exact g1, by rw [updL_n (by omega)]; exact g2, by rw [updZ_n (by omega)]; exact g3, by rw [e3' j (by omega) (fun x hx => by have := xo5 x hx; omega), updZ_n (by omega)]; exact g4, by rw [updZ_n (by omega)]; exact g5⟩
  · intro p hp
    exact ⟨by rw [updZ_n (by omega)]; exact (f4 p hp).1, (f4 p hp).2⟩
end LIV
/-- the labels of tables: ranges one behind the other, from l0 on, below lc -/
def TB (ops es : Nat → Int) (vs : Nat → Int64) (l0 lc : Int) (s i : Nat) : Prop := l0 ≤ lc ∧ ∀ j, s ≤ j → j < i → ops j = 14 → l0 ≤ es j ∧ es j + (vs j).toInt + 1 ≤ lc ∧ (∀ j', j < j' → j' < i → ops j' = 14 → es j + (vs j).toInt + 1 ≤ es j')
/-- a whole body: instructions s .. e of the class, the tape from p0 to q -/
def BodyOk (f : Nat → Int32) (C : KCo) (M : KMe) (s e : Nat) (p0 q : Int) : Prop := s ≤ e ∧ ∃ pos stk, pos s = p0 ∧ PD f C.ops C.extras C.labels C.values C.labelCount s e pos ∧ SK C.ops C.ends C.elses s e stk ∧ stk e = [] ∧ ME C.ops C.ends C.elses s e pos stk M.endOf M.elseOf ∧ C.ops e = 256 ∧ by8 (f (pos e).toNat) = 11 ∧ 0 ≤ pos e ∧ q = pos e + 1
