/-! ANOTHER TAPE: the class's reader looks at no byte behind its limit -/
def Sq (N : Int) (f g : Nat → Int32) (z z' : KSo) : Prop := ∃ (a L : Int) (b : Bool), z = KSo.mk a L b f ∧ z' = KSo.mk a L b g ∧ 0 ≤ a ∧ 0 ≤ L ∧ L ≤ N
def OE {α : Type} (R : α → α → Prop) (x y : Out Empty α) : Prop := (x = .bad ∧ y = .bad) ∨ ∃ a b, x = .ret a ∧ y = .ret b ∧ R a b
def Rp (N : Int) (f g : Nat → Int32) {β : Type} (p p' : KSo × β) : Prop := Sq N f g p.1 p'.1 ∧ p.2 = p'.2
section OES
variable {N : Int} {f g : Nat → Int32} {α β : Type} {R : α → α → Prop} {S : β → β → Prop}
set_option maxRecDepth 20000 in
theorem OE.bad : OE R .bad .bad := Or.inl ⟨rfl, rfl⟩
set_option maxRecDepth 20000 in
theorem OE.ret {a b : α} (h : R a b) : OE R (.ret a) (.ret b) := Or.inr ⟨a, b, rfl, rfl, h⟩
set_option maxRecDepth 20000 in
theorem OE.bind {x y : Out Empty α} {k l : α → Out Empty β} (h : OE R x y) (hk : ∀ a b, R a b → OE S (k a) (l b)) : OE S (obind x k) (obind y l) := by
  rcases h with ⟨rfl, rfl⟩ | ⟨a, b, rfl, rfl, h⟩
  · exact Or.inl ⟨rfl, rfl⟩
  · exact hk a b h
set_option maxRecDepth 20000 in
theorem OE.same {x : Out Empty α} {k l : α → Out Empty β} (hk : ∀ a, OE S (k a) (l a)) : OE S (obind x k) (obind x l) :=
  Out.cs (P := fun x => OE S (obind x k) (obind x l)) x (fun a => hk a) (fun t => t.elim) (Or.inl ⟨rfl, rfl⟩)
set_option maxRecDepth 20000 in
theorem OE.ite {c : Prop} [Decidable c] {x y x' y' : Out Empty α} (h1 : c → OE R x x') (h2 : ¬ c → OE R y y') : OE R (if c then x else y) (if c then x' else y') := by
  by_cases h : c
  · rw [if_pos h, if_pos h]; exact h1 h
  · rw [if_neg h, if_neg h]; exact h2 h
set_option maxRecDepth 20000 in
theorem OE.refl {x : Out Empty α} (h : ∀ a, R a a) : OE R x x := Out.cs (P := fun x => OE R x x) x (fun a => OE.ret (h a)) (fun t => t.elim) OE.bad
set_option maxRecDepth 20000 in
theorem sq_mk {a L : Int} {b : Bool} (h0 : 0 ≤ a) (h1 : 0 ≤ L) (h2 : L ≤ N) : Sq N f g (KSo.mk a L b f) (KSo.mk a L b g) := ⟨a, L, b, rfl, rfl, h0, h1, h2⟩
end OES
section ATP
variable {N : Int} {f g : Nat → Int32} {fu : Nat}

set_option maxRecDepth 20000 in
theorem oe_So_octet (hfg : ∀ k : Nat, (k : Int) < N → f k = g k) (hN : N ≤ 2000) {a L : Int} {b : Bool} (h0 : 0 ≤ a) (h1 : 0 ≤ L) (h2 : L ≤ N) : OE (Rp N f g) (f_So_octet (KSo.mk a L b f)) (f_So_octet (KSo.mk a L b g)) := by
  by_cases h : b = true ∨ L ≤ a
  · rw [so_octE h, so_octE h]; exact OE.ret ⟨sq_mk h0 h1 h2, rfl⟩
  · have hb : b = false := by
      cases b with
      | true => exact absurd (Or.inl rfl) h
      | false => rfl
    subst hb
    have ha : a < L := by
      rcases Int.lt_or_le a L with q | q
      · exact q
      · exact absurd (Or.inr q) h
    rw [so_oct h0 ha (by omega), so_oct h0 ha (by omega), hfg a.toNat (by omega)]
    exact OE.ret ⟨sq_mk (by omega) h1 h2, rfl⟩
set_option maxRecDepth 20000 in
theorem oe_So_fail (hfg : ∀ k : Nat, (k : Int) < N → f k = g k) (hN : N ≤ 2000) {a L : Int} {b : Bool} (h0 : 0 ≤ a) (h1 : 0 ≤ L) (h2 : L ≤ N)  : OE (Sq N f g) (f_So_fail (KSo.mk a L b f)) (f_So_fail (KSo.mk a L b g)) := by
  unfold f_So_fail
  simp only [jp, KSo.at_, KSo.limit, KSo.failed, KSo.bytes, KSo.mk]
  repeat' (first
    | (refine OE.ite (fun _ => ?_) (fun _ => ?_))
    | exact OE.bad
    | exact OE.ret ⟨(sq_mk (by omega) (by omega) (by omega)), rfl⟩
    | exact OE.ret (sq_mk (by omega) (by omega) (by omega))
    | exact OE.ret rfl
    | (refine OE.bind (oe_So_octet hfg hN (by omega) (by omega) (by omega)) ?_; rintro ⟨_, _⟩ ⟨_, _⟩ ⟨⟨a9, L9, b9, h1, h2, h3, h4, h5⟩, h6⟩; dsimp only at h1 h2 h6; subst h1 h2 h6; try dsimp only [KSo.at_, KSo.limit, KSo.failed, KSo.bytes, KSo.mk])
    | (refine OE.same (fun _ => ?_)))
set_option maxRecDepth 20000 in
theorem oe_So_hasFailed (hfg : ∀ k : Nat, (k : Int) < N → f k = g k) (hN : N ≤ 2000) {a L : Int} {b : Bool} (h0 : 0 ≤ a) (h1 : 0 ≤ L) (h2 : L ≤ N)  : OE (fun p p' => p = p') (f_So_hasFailed (KSo.mk a L b f)) (f_So_hasFailed (KSo.mk a L b g)) := by
  unfold f_So_hasFailed
  simp only [jp, KSo.at_, KSo.limit, KSo.failed, KSo.bytes, KSo.mk]
  repeat' (first
    | (refine OE.ite (fun _ => ?_) (fun _ => ?_))
    | exact OE.bad
    | exact OE.ret ⟨(sq_mk (by omega) (by omega) (by omega)), rfl⟩
    | exact OE.ret (sq_mk (by omega) (by omega) (by omega))
    | exact OE.ret rfl
    | (refine OE.bind (oe_So_octet hfg hN (by omega) (by omega) (by omega)) ?_; rintro ⟨_, _⟩ ⟨_, _⟩ ⟨⟨a9, L9, b9, h1, h2, h3, h4, h5⟩, h6⟩; dsimp only at h1 h2 h6; subst h1 h2 h6; try dsimp only [KSo.at_, KSo.limit, KSo.failed, KSo.bytes, KSo.mk])
    | (refine OE.bind (oe_So_fail hfg hN (by omega) (by omega) (by omega)) ?_; rintro _ _ ⟨a9, L9, b9, h1, h2, h3, h4, h5⟩; subst h1 h2; try dsimp only [KSo.at_, KSo.limit, KSo.failed, KSo.bytes, KSo.mk])
    | (refine OE.same (fun _ => ?_)))
set_option maxRecDepth 20000 in
theorem oe_So_hasMore (hfg : ∀ k : Nat, (k : Int) < N → f k = g k) (hN : N ≤ 2000) {a L : Int} {b : Bool} (h0 : 0 ≤ a) (h1 : 0 ≤ L) (h2 : L ≤ N)  : OE (fun p p' => p = p') (f_So_hasMore (KSo.mk a L b f)) (f_So_hasMore (KSo.mk a L b g)) := by
  unfold f_So_hasMore
  simp only [jp, KSo.at_, KSo.limit, KSo.failed, KSo.bytes, KSo.mk]
  repeat' (first
    | (refine OE.ite (fun _ => ?_) (fun _ => ?_))
    | exact OE.bad
    | exact OE.ret ⟨(sq_mk (by omega) (by omega) (by omega)), rfl⟩
    | exact OE.ret (sq_mk (by omega) (by omega) (by omega))
    | exact OE.ret rfl
    | (refine OE.bind (oe_So_octet hfg hN (by omega) (by omega) (by omega)) ?_; rintro ⟨_, _⟩ ⟨_, _⟩ ⟨⟨a9, L9, b9, h1, h2, h3, h4, h5⟩, h6⟩; dsimp only at h1 h2 h6; subst h1 h2 h6; try dsimp only [KSo.at_, KSo.limit, KSo.failed, KSo.bytes, KSo.mk])
    | (refine OE.bind (oe_So_fail hfg hN (by omega) (by omega) (by omega)) ?_; rintro _ _ ⟨a9, L9, b9, h1, h2, h3, h4, h5⟩; subst h1 h2; try dsimp only [KSo.at_, KSo.limit, KSo.failed, KSo.bytes, KSo.mk])
    | (refine OE.bind (oe_So_hasFailed hfg hN (by omega) (by omega) (by omega)) ?_; rintro _ _ h1; subst h1; try dsimp only [KSo.at_, KSo.limit, KSo.failed, KSo.bytes, KSo.mk])
    | (refine OE.same (fun _ => ?_)))
set_option maxRecDepth 20000 in
theorem oe_So_require (hfg : ∀ k : Nat, (k : Int) < N → f k = g k) (hN : N ≤ 2000) {a L : Int} {b : Bool} (h0 : 0 ≤ a) (h1 : 0 ≤ L) (h2 : L ≤ N) (v_wanted : Int) : OE (Sq N f g) (f_So_require (KSo.mk a L b f) v_wanted) (f_So_require (KSo.mk a L b g) v_wanted) := by
  unfold f_So_require
  simp only [jp, KSo.at_, KSo.limit, KSo.failed, KSo.bytes, KSo.mk]
  repeat' (first
    | (refine OE.ite (fun _ => ?_) (fun _ => ?_))
    | exact OE.bad
    | exact OE.ret ⟨(sq_mk (by omega) (by omega) (by omega)), rfl⟩
    | exact OE.ret (sq_mk (by omega) (by omega) (by omega))
    | exact OE.ret rfl
    | (refine OE.bind (oe_So_octet hfg hN (by omega) (by omega) (by omega)) ?_; rintro ⟨_, _⟩ ⟨_, _⟩ ⟨⟨a9, L9, b9, h1, h2, h3, h4, h5⟩, h6⟩; dsimp only at h1 h2 h6; subst h1 h2 h6; try dsimp only [KSo.at_, KSo.limit, KSo.failed, KSo.bytes, KSo.mk])
    | (refine OE.bind (oe_So_fail hfg hN (by omega) (by omega) (by omega)) ?_; rintro _ _ ⟨a9, L9, b9, h1, h2, h3, h4, h5⟩; subst h1 h2; try dsimp only [KSo.at_, KSo.limit, KSo.failed, KSo.bytes, KSo.mk])
    | (refine OE.bind (oe_So_hasFailed hfg hN (by omega) (by omega) (by omega)) ?_; rintro _ _ h1; subst h1; try dsimp only [KSo.at_, KSo.limit, KSo.failed, KSo.bytes, KSo.mk])
    | (refine OE.bind (oe_So_hasMore hfg hN (by omega) (by omega) (by omega)) ?_; rintro _ _ h1; subst h1; try dsimp only [KSo.at_, KSo.limit, KSo.failed, KSo.bytes, KSo.mk])
    | (refine OE.same (fun _ => ?_)))
set_option maxRecDepth 20000 in
theorem oe_So_flag (hfg : ∀ k : Nat, (k : Int) < N → f k = g k) (hN : N ≤ 2000) {a L : Int} {b : Bool} (h0 : 0 ≤ a) (h1 : 0 ≤ L) (h2 : L ≤ N)  : OE (Rp N f g) (f_So_flag (KSo.mk a L b f)) (f_So_flag (KSo.mk a L b g)) := by
  unfold f_So_flag
  simp only [jp, KSo.at_, KSo.limit, KSo.failed, KSo.bytes, KSo.mk]
  repeat' (first
    | (refine OE.ite (fun _ => ?_) (fun _ => ?_))
    | exact OE.bad
    | exact OE.ret ⟨(sq_mk (by omega) (by omega) (by omega)), rfl⟩
    | exact OE.ret (sq_mk (by omega) (by omega) (by omega))
    | exact OE.ret rfl
    | (refine OE.bind (oe_So_octet hfg hN (by omega) (by omega) (by omega)) ?_; rintro ⟨_, _⟩ ⟨_, _⟩ ⟨⟨a9, L9, b9, h1, h2, h3, h4, h5⟩, h6⟩; dsimp only at h1 h2 h6; subst h1 h2 h6; try dsimp only [KSo.at_, KSo.limit, KSo.failed, KSo.bytes, KSo.mk])
    | (refine OE.bind (oe_So_fail hfg hN (by omega) (by omega) (by omega)) ?_; rintro _ _ ⟨a9, L9, b9, h1, h2, h3, h4, h5⟩; subst h1 h2; try dsimp only [KSo.at_, KSo.limit, KSo.failed, KSo.bytes, KSo.mk])
    | (refine OE.bind (oe_So_hasFailed hfg hN (by omega) (by omega) (by omega)) ?_; rintro _ _ h1; subst h1; try dsimp only [KSo.at_, KSo.limit, KSo.failed, KSo.bytes, KSo.mk])
    | (refine OE.bind (oe_So_hasMore hfg hN (by omega) (by omega) (by omega)) ?_; rintro _ _ h1; subst h1; try dsimp only [KSo.at_, KSo.limit, KSo.failed, KSo.bytes, KSo.mk])
    | (refine OE.bind (oe_So_require hfg hN (by omega) (by omega) (by omega) _) ?_; rintro _ _ ⟨a9, L9, b9, h1, h2, h3, h4, h5⟩; subst h1 h2; try dsimp only [KSo.at_, KSo.limit, KSo.failed, KSo.bytes, KSo.mk])
    | (refine OE.same (fun _ => ?_)))
set_option maxRecDepth 20000 in
theorem oe_So_valueType (hfg : ∀ k : Nat, (k : Int) < N → f k = g k) (hN : N ≤ 2000) {a L : Int} {b : Bool} (h0 : 0 ≤ a) (h1 : 0 ≤ L) (h2 : L ≤ N)  : OE (Rp N f g) (f_So_valueType (KSo.mk a L b f)) (f_So_valueType (KSo.mk a L b g)) := by
  unfold f_So_valueType
  simp only [jp, KSo.at_, KSo.limit, KSo.failed, KSo.bytes, KSo.mk]
  repeat' (first
    | (refine OE.ite (fun _ => ?_) (fun _ => ?_))
    | exact OE.bad
    | exact OE.ret ⟨(sq_mk (by omega) (by omega) (by omega)), rfl⟩
    | exact OE.ret (sq_mk (by omega) (by omega) (by omega))
    | exact OE.ret rfl
    | (refine OE.bind (oe_So_octet hfg hN (by omega) (by omega) (by omega)) ?_; rintro ⟨_, _⟩ ⟨_, _⟩ ⟨⟨a9, L9, b9, h1, h2, h3, h4, h5⟩, h6⟩; dsimp only at h1 h2 h6; subst h1 h2 h6; try dsimp only [KSo.at_, KSo.limit, KSo.failed, KSo.bytes, KSo.mk])
    | (refine OE.bind (oe_So_fail hfg hN (by omega) (by omega) (by omega)) ?_; rintro _ _ ⟨a9, L9, b9, h1, h2, h3, h4, h5⟩; subst h1 h2; try dsimp only [KSo.at_, KSo.limit, KSo.failed, KSo.bytes, KSo.mk])
    | (refine OE.bind (oe_So_hasFailed hfg hN (by omega) (by omega) (by omega)) ?_; rintro _ _ h1; subst h1; try dsimp only [KSo.at_, KSo.limit, KSo.failed, KSo.bytes, KSo.mk])
    | (refine OE.bind (oe_So_hasMore hfg hN (by omega) (by omega) (by omega)) ?_; rintro _ _ h1; subst h1; try dsimp only [KSo.at_, KSo.limit, KSo.failed, KSo.bytes, KSo.mk])
    | (refine OE.bind (oe_So_require hfg hN (by omega) (by omega) (by omega) _) ?_; rintro _ _ ⟨a9, L9, b9, h1, h2, h3, h4, h5⟩; subst h1 h2; try dsimp only [KSo.at_, KSo.limit, KSo.failed, KSo.bytes, KSo.mk])
    | (refine OE.bind (oe_So_flag hfg hN (by omega) (by omega) (by omega)) ?_; rintro ⟨_, _⟩ ⟨_, _⟩ ⟨⟨a9, L9, b9, h1, h2, h3, h4, h5⟩, h6⟩; dsimp only at h1 h2 h6; subst h1 h2 h6; try dsimp only [KSo.at_, KSo.limit, KSo.failed, KSo.bytes, KSo.mk])
    | (refine OE.same (fun _ => ?_)))
set_option maxRecDepth 20000 in
theorem oe_So_left (hfg : ∀ k : Nat, (k : Int) < N → f k = g k) (hN : N ≤ 2000) {a L : Int} {b : Bool} (h0 : 0 ≤ a) (h1 : 0 ≤ L) (h2 : L ≤ N)  : OE (fun p p' => p = p') (f_So_left (KSo.mk a L b f)) (f_So_left (KSo.mk a L b g)) := by
  unfold f_So_left
  simp only [jp, KSo.at_, KSo.limit, KSo.failed, KSo.bytes, KSo.mk]
  repeat' (first
    | (refine OE.ite (fun _ => ?_) (fun _ => ?_))
    | exact OE.bad
    | exact OE.ret ⟨(sq_mk (by omega) (by omega) (by omega)), rfl⟩
    | exact OE.ret (sq_mk (by omega) (by omega) (by omega))
    | exact OE.ret rfl
    | (refine OE.bind (oe_So_octet hfg hN (by omega) (by omega) (by omega)) ?_; rintro ⟨_, _⟩ ⟨_, _⟩ ⟨⟨a9, L9, b9, h1, h2, h3, h4, h5⟩, h6⟩; dsimp only at h1 h2 h6; subst h1 h2 h6; try dsimp only [KSo.at_, KSo.limit, KSo.failed, KSo.bytes, KSo.mk])
    | (refine OE.bind (oe_So_fail hfg hN (by omega) (by omega) (by omega)) ?_; rintro _ _ ⟨a9, L9, b9, h1, h2, h3, h4, h5⟩; subst h1 h2; try dsimp only [KSo.at_, KSo.limit, KSo.failed, KSo.bytes, KSo.mk])
    | (refine OE.bind (oe_So_hasFailed hfg hN (by omega) (by omega) (by omega)) ?_; rintro _ _ h1; subst h1; try dsimp only [KSo.at_, KSo.limit, KSo.failed, KSo.bytes, KSo.mk])
    | (refine OE.bind (oe_So_hasMore hfg hN (by omega) (by omega) (by omega)) ?_; rintro _ _ h1; subst h1; try dsimp only [KSo.at_, KSo.limit, KSo.failed, KSo.bytes, KSo.mk])
    | (refine OE.bind (oe_So_require hfg hN (by omega) (by omega) (by omega) _) ?_; rintro _ _ ⟨a9, L9, b9, h1, h2, h3, h4, h5⟩; subst h1 h2; try dsimp only [KSo.at_, KSo.limit, KSo.failed, KSo.bytes, KSo.mk])
    | (refine OE.bind (oe_So_flag hfg hN (by omega) (by omega) (by omega)) ?_; rintro ⟨_, _⟩ ⟨_, _⟩ ⟨⟨a9, L9, b9, h1, h2, h3, h4, h5⟩, h6⟩; dsimp only at h1 h2 h6; subst h1 h2 h6; try dsimp only [KSo.at_, KSo.limit, KSo.failed, KSo.bytes, KSo.mk])
    | (refine OE.bind (oe_So_valueType hfg hN (by omega) (by omega) (by omega)) ?_; rintro ⟨_, _⟩ ⟨_, _⟩ ⟨⟨a9, L9, b9, h1, h2, h3, h4, h5⟩, h6⟩; dsimp only at h1 h2 h6; subst h1 h2 h6; try dsimp only [KSo.at_, KSo.limit, KSo.failed, KSo.bytes, KSo.mk])
    | (refine OE.same (fun _ => ?_)))
set_option maxRecDepth 20000 in
theorem oe_So_skipRest (hfg : ∀ k : Nat, (k : Int) < N → f k = g k) (hN : N ≤ 2000) {a L : Int} {b : Bool} (h0 : 0 ≤ a) (h1 : 0 ≤ L) (h2 : L ≤ N)  : OE (Sq N f g) (f_So_skipRest (KSo.mk a L b f)) (f_So_skipRest (KSo.mk a L b g)) := by
  unfold f_So_skipRest
  simp only [jp, KSo.at_, KSo.limit, KSo.failed, KSo.bytes, KSo.mk]
  repeat' (first
    | (refine OE.ite (fun _ => ?_) (fun _ => ?_))
    | exact OE.bad
    | exact OE.ret ⟨(sq_mk (by omega) (by omega) (by omega)), rfl⟩
    | exact OE.ret (sq_mk (by omega) (by omega) (by omega))
    | exact OE.ret rfl
    | (refine OE.bind (oe_So_octet hfg hN (by omega) (by omega) (by omega)) ?_; rintro ⟨_, _⟩ ⟨_, _⟩ ⟨⟨a9, L9, b9, h1, h2, h3, h4, h5⟩, h6⟩; dsimp only at h1 h2 h6; subst h1 h2 h6; try dsimp only [KSo.at_, KSo.limit, KSo.failed, KSo.bytes, KSo.mk])
    | (refine OE.bind (oe_So_fail hfg hN (by omega) (by omega) (by omega)) ?_; rintro _ _ ⟨a9, L9, b9, h1, h2, h3, h4, h5⟩; subst h1 h2; try dsimp only [KSo.at_, KSo.limit, KSo.failed, KSo.bytes, KSo.mk])
    | (refine OE.bind (oe_So_hasFailed hfg hN (by omega) (by omega) (by omega)) ?_; rintro _ _ h1; subst h1; try dsimp only [KSo.at_, KSo.limit, KSo.failed, KSo.bytes, KSo.mk])
    | (refine OE.bind (oe_So_hasMore hfg hN (by omega) (by omega) (by omega)) ?_; rintro _ _ h1; subst h1; try dsimp only [KSo.at_, KSo.limit, KSo.failed, KSo.bytes, KSo.mk])
    | (refine OE.bind (oe_So_require hfg hN (by omega) (by omega) (by omega) _) ?_; rintro _ _ ⟨a9, L9, b9, h1, h2, h3, h4, h5⟩; subst h1 h2; try dsimp only [KSo.at_, KSo.limit, KSo.failed, KSo.bytes, KSo.mk])
    | (refine OE.bind (oe_So_flag hfg hN (by omega) (by omega) (by omega)) ?_; rintro ⟨_, _⟩ ⟨_, _⟩ ⟨⟨a9, L9, b9, h1, h2, h3, h4, h5⟩, h6⟩; dsimp only at h1 h2 h6; subst h1 h2 h6; try dsimp only [KSo.at_, KSo.limit, KSo.failed, KSo.bytes, KSo.mk])
    | (refine OE.bind (oe_So_valueType hfg hN (by omega) (by omega) (by omega)) ?_; rintro ⟨_, _⟩ ⟨_, _⟩ ⟨⟨a9, L9, b9, h1, h2, h3, h4, h5⟩, h6⟩; dsimp only at h1 h2 h6; subst h1 h2 h6; try dsimp only [KSo.at_, KSo.limit, KSo.failed, KSo.bytes, KSo.mk])
    | (refine OE.bind (oe_So_left hfg hN (by omega) (by omega) (by omega)) ?_; rintro _ _ h1; subst h1; try dsimp only [KSo.at_, KSo.limit, KSo.failed, KSo.bytes, KSo.mk])
    | (refine OE.same (fun _ => ?_)))
set_option maxRecDepth 20000 in
theorem oe_So_widen {a L o : Int} {b : Bool} (h0 : 0 ≤ a) (h1 : 0 ≤ o) (h2 : o ≤ N) : OE (Sq N f g) (f_So_widen (KSo.mk a L b f) o) (f_So_widen (KSo.mk a L b g) o) := by
  rw [wid, wid]; exact OE.ret (sq_mk h0 h1 h2)
set_option maxRecDepth 20000 in
theorem oe_L5_uns (hfg : ∀ k : Nat, (k : Int) < N → f k = g k) (hN : N ≤ 2000) {most : Int64} : ∀ (n k : Nat) (a L : Int) (b : Bool) (v : Int64), 0 ≤ a → 0 ≤ L → L ≤ N → k ≤ 5 → uL v < 2 ^ (7 * k) → OE (fun p p' => Sq N f g p.1 p'.1 ∧ p.2 = p'.2 ∧ 0 ≤ p.2.toInt) (L5_So_unsigned fu most n (KSo.mk a L b f) v k) (L5_So_unsigned fu most n (KSo.mk a L b g) v k) := by
  intro n
  induction n with
  | zero => intro k a L b v h0 h1 h2 hk hv; exact OE.bad
  | succ n ih =>
    intro k a L b v h0 h1 h2 hk hv
    by_cases h5 : 5 ≤ (k : Int)
    · rw [uns_end h5, uns_end h5]; exact OE.ret ⟨sq_mk h0 h1 h2, rfl, (show 0 ≤ (0 : Int64).toInt by decide)⟩
    by_cases hb : b = true ∨ L ≤ a
    · rw [uns_out hb (by omega) (by omega), uns_out hb (by omega) (by omega)]; exact OE.ret ⟨sq_mk h0 h1 h2, rfl, (show 0 ≤ (0 : Int64).toInt by decide)⟩
    have hb' : b = false := by
      cases b with
      | true => exact absurd (Or.inl rfl) hb
      | false => rfl
    subst hb'
    have ha : a < L := by
      rcases Int.lt_or_le a L with q | q
      · exact q
      · exact absurd (Or.inr q) hb
    rw [uns_step h0 ha (by omega) (by omega) (by omega), uns_step h0 ha (by omega) (by omega) (by omega), ← hfg a.toNat (by omega)]
    have hy := by8_ge (f a.toNat)
    generalize by8 (f a.toNat) = y at hy
    have hu : uL (lb v y k) < 2 ^ (7 * (k + 1)) := by
      rw [uL_lb8 (by omega) hy.1 hy.2 hv]
      have : y.toNat % 128 ≤ 127 := by omega
      have h2 : y.toNat % 128 * 2 ^ (7 * k) ≤ 127 * 2 ^ (7 * k) := Nat.mul_le_mul_right _ this
      rw [show 7 * (k + 1) = 7 * k + 7 by omega, Nat.pow_add]
      omega
    have h63 : uL (lb v y k) < 2 ^ 63 := Nat.lt_of_lt_of_le hu (Nat.pow_le_pow_right (by decide) (by omega))
    refine OE.ite (fun _ => ?_) (fun _ => ?_)
    · have := ih (k + 1) (a + 1) L false (lb v y k) (by omega) h1 h2 (by omega) hu
      exact this
    · refine OE.ite (fun _ => ?_) (fun _ => ?_)
      · exact OE.ret ⟨sq_mk (by omega) h1 h2, rfl, by rw [uL_toInt h63]; exact Int.natCast_nonneg _⟩
      · exact OE.ret ⟨sq_mk (by omega) h1 h2, rfl, (show 0 ≤ (0 : Int64).toInt by decide)⟩
set_option maxRecDepth 20000 in
theorem oe_unsP (hfg : ∀ k : Nat, (k : Int) < N → f k = g k) (hN : N ≤ 2000) {a L : Int} {b : Bool} (h0 : 0 ≤ a) (h1 : 0 ≤ L) (h2 : L ≤ N) (most : Int64) : OE (fun p p' => Sq N f g p.1 p'.1 ∧ p.2 = p'.2 ∧ 0 ≤ p.2.toInt) (f_So_unsigned fu (KSo.mk a L b f) most) (f_So_unsigned fu (KSo.mk a L b g) most) := oe_L5_uns hfg hN fu 0 a L b 0 h0 h1 h2 (by omega) (by decide)
set_option maxRecDepth 20000 in
theorem oe_uns (hfg : ∀ k : Nat, (k : Int) < N → f k = g k) (hN : N ≤ 2000) {a L : Int} {b : Bool} (h0 : 0 ≤ a) (h1 : 0 ≤ L) (h2 : L ≤ N) (most : Int64) : OE (Rp N f g) (f_So_unsigned fu (KSo.mk a L b f) most) (f_So_unsigned fu (KSo.mk a L b g) most) := by
  rcases oe_unsP (fu := fu) hfg hN h0 h1 h2 (b := b) most with h | ⟨x, y, e1, e2, e3, e4, _⟩
  · exact Or.inl h
  · exact Or.inr ⟨x, y, e1, e2, e3, e4⟩
set_option maxRecDepth 20000 in
theorem oe_nar (hfg : ∀ k : Nat, (k : Int) < N → f k = g k) (hN : N ≤ 2000) {a L : Int} {b : Bool} (h0 : 0 ≤ a) (h1 : 0 ≤ L) (h2 : L ≤ N) : OE (fun p p' => Sq N f g p.1 p'.1 ∧ p.2 = p'.2 ∧ 0 ≤ p.2 ∧ p.2 ≤ N) (f_So_narrow fu (KSo.mk a L b f)) (f_So_narrow fu (KSo.mk a L b g)) := by
  unfold f_So_narrow
  simp only [jp, KSo.at_, KSo.limit, KSo.failed, KSo.bytes, KSo.mk]
  refine OE.bind (oe_unsP (fu := fu) hfg hN h0 h1 h2 (b := b) 4294967295) ?_
  rintro ⟨_, w⟩ ⟨_, _⟩ ⟨⟨a9, L9, b9, h1', h2', h3, h4, h5⟩, h6, h7⟩
  dsimp only at h1' h2' h6 h7
  subst h1' h2' h6
  dsimp only [KSo.at_, KSo.limit, KSo.failed, KSo.bytes, KSo.mk]
  refine OE.ite (fun hr => ?_) (fun _ => OE.bad)
  refine OE.ite (fun hc => ?_) (fun _ => OE.ret ⟨sq_mk h3 h4 h5, rfl, h1, h2⟩)
  rw [Int32.toInt_toInt64, iI_t hr] at hc
  have e : w.toInt32 = iI w.toInt := by
    apply Int32.toInt_inj.mp
    rw [iI_t (by omega), Int64.toInt_toInt32, Int.bmod_eq_of_le (by omega) (by omega)]
  rw [e, iI_add, iI_t (by omega)]
  exact OE.ret ⟨sq_mk h3 (by omega) (by omega), rfl, h1, h2⟩
set_option maxRecDepth 20000 in
theorem oeL5_So_signed (hfg : ∀ k : Nat, (k : Int) < N → f k = g k) (hN : N ≤ 2000) (v_bits : Int) : ∀ (n : Nat) (a L : Int) (b : Bool) (w1 : Int64) (w2 : Int), 0 ≤ a → 0 ≤ L → L ≤ N → OE (Rp N f g) (L5_So_signed fu v_bits n (KSo.mk a L b f) w1 w2) (L5_So_signed fu v_bits n (KSo.mk a L b g) w1 w2) := by
  intro n
  induction n with
  | zero => intro a L b w1 w2 h0 h1 h2; exact OE.bad
  | succ n ih =>
    intro a L b w1 w2 h0 h1 h2
    rw [L5_So_signed.eq_2, L5_So_signed.eq_2]
    simp only [jp, KSo.at_, KSo.limit, KSo.failed, KSo.bytes, KSo.mk]
    repeat' (first
      | (refine OE.ite (fun _ => ?_) (fun _ => ?_))
      | exact OE.bad
      | exact OE.ret ⟨(sq_mk (by omega) (by omega) (by omega)), rfl⟩
      | exact OE.ret (sq_mk (by omega) (by omega) (by omega))
      | exact OE.ret rfl
      | exact ih _ _ _ _ _ (by omega) (by omega) (by omega)
      | (refine OE.bind (oe_So_octet hfg hN (by omega) (by omega) (by omega)) ?_; rintro ⟨_, _⟩ ⟨_, _⟩ ⟨⟨a9, L9, b9, h1, h2, h3, h4, h5⟩, h6⟩; dsimp only at h1 h2 h6; subst h1 h2 h6; try dsimp only [KSo.at_, KSo.limit, KSo.failed, KSo.bytes, KSo.mk])
      | (refine OE.bind (oe_So_fail hfg hN (by omega) (by omega) (by omega)) ?_; rintro _ _ ⟨a9, L9, b9, h1, h2, h3, h4, h5⟩; subst h1 h2; try dsimp only [KSo.at_, KSo.limit, KSo.failed, KSo.bytes, KSo.mk])
      | (refine OE.bind (oe_So_hasFailed hfg hN (by omega) (by omega) (by omega)) ?_; rintro _ _ h1; subst h1; try dsimp only [KSo.at_, KSo.limit, KSo.failed, KSo.bytes, KSo.mk])
      | (refine OE.bind (oe_So_hasMore hfg hN (by omega) (by omega) (by omega)) ?_; rintro _ _ h1; subst h1; try dsimp only [KSo.at_, KSo.limit, KSo.failed, KSo.bytes, KSo.mk])
      | (refine OE.bind (oe_So_require hfg hN (by omega) (by omega) (by omega) _) ?_; rintro _ _ ⟨a9, L9, b9, h1, h2, h3, h4, h5⟩; subst h1 h2; try dsimp only [KSo.at_, KSo.limit, KSo.failed, KSo.bytes, KSo.mk])
      | (refine OE.bind (oe_So_flag hfg hN (by omega) (by omega) (by omega)) ?_; rintro ⟨_, _⟩ ⟨_, _⟩ ⟨⟨a9, L9, b9, h1, h2, h3, h4, h5⟩, h6⟩; dsimp only at h1 h2 h6; subst h1 h2 h6; try dsimp only [KSo.at_, KSo.limit, KSo.failed, KSo.bytes, KSo.mk])
      | (refine OE.bind (oe_So_valueType hfg hN (by omega) (by omega) (by omega)) ?_; rintro ⟨_, _⟩ ⟨_, _⟩ ⟨⟨a9, L9, b9, h1, h2, h3, h4, h5⟩, h6⟩; dsimp only at h1 h2 h6; subst h1 h2 h6; try dsimp only [KSo.at_, KSo.limit, KSo.failed, KSo.bytes, KSo.mk])
      | (refine OE.bind (oe_So_left hfg hN (by omega) (by omega) (by omega)) ?_; rintro _ _ h1; subst h1; try dsimp only [KSo.at_, KSo.limit, KSo.failed, KSo.bytes, KSo.mk])
      | (refine OE.bind (oe_So_skipRest hfg hN (by omega) (by omega) (by omega)) ?_; rintro _ _ ⟨a9, L9, b9, h1, h2, h3, h4, h5⟩; subst h1 h2; try dsimp only [KSo.at_, KSo.limit, KSo.failed, KSo.bytes, KSo.mk])
      | (refine OE.bind (oe_So_widen (by omega) (by omega) (by omega)) ?_; rintro _ _ ⟨a9, L9, b9, h1, h2, h3, h4, h5⟩; subst h1 h2; try dsimp only [KSo.at_, KSo.limit, KSo.failed, KSo.bytes, KSo.mk])
      | (refine OE.bind (oe_uns hfg hN (by omega) (by omega) (by omega) _) ?_; rintro ⟨_, _⟩ ⟨_, _⟩ ⟨⟨a9, L9, b9, h1, h2, h3, h4, h5⟩, h6⟩; dsimp only at h1 h2 h6; subst h1 h2 h6; try dsimp only [KSo.at_, KSo.limit, KSo.failed, KSo.bytes, KSo.mk])
      | (refine OE.bind (oe_nar hfg hN (by omega) (by omega) (by omega)) ?_; rintro ⟨_, _⟩ ⟨_, _⟩ ⟨⟨a9, L9, b9, h1, h2, h3, h4, h5⟩, h6, h7, h8⟩; dsimp only at h1 h2 h6 h7 h8; subst h1 h2 h6; try dsimp only [KSo.at_, KSo.limit, KSo.failed, KSo.bytes, KSo.mk])
      | (refine OE.same (fun _ => ?_)))
set_option maxRecDepth 20000 in
theorem oe_So_signed (hfg : ∀ k : Nat, (k : Int) < N → f k = g k) (hN : N ≤ 2000) {a L : Int} {b : Bool} (h0 : 0 ≤ a) (h1 : 0 ≤ L) (h2 : L ≤ N) (v_bits : Int) : OE (Rp N f g) (f_So_signed fu (KSo.mk a L b f) v_bits) (f_So_signed fu (KSo.mk a L b g) v_bits) := by
  unfold f_So_signed
  exact oeL5_So_signed hfg hN _ fu _ _ _ _ _ h0 h1 h2
set_option maxRecDepth 20000 in
theorem oe_BR_openBlock (hfg : ∀ k : Nat, (k : Int) < N → f k = g k) (hN : N ≤ 2000) {a L : Int} {b : Bool} (h0 : 0 ≤ a) (h1 : 0 ≤ L) (h2 : L ≤ N) (zCo : KCo) (zBR : KBR) (v_at : Int) : OE (Rp N f g) (f_BR_openBlock (KSo.mk a L b f) zCo zBR v_at) (f_BR_openBlock (KSo.mk a L b g) zCo zBR v_at) := by
  unfold f_BR_openBlock
  simp only [jp, KSo.at_, KSo.limit, KSo.failed, KSo.bytes, KSo.mk]
  repeat' (first
    | (refine OE.ite (fun _ => ?_) (fun _ => ?_))
    | exact OE.bad
    | exact OE.ret ⟨(sq_mk (by omega) (by omega) (by omega)), rfl⟩
    | exact OE.ret (sq_mk (by omega) (by omega) (by omega))
    | exact OE.ret rfl
    | (refine OE.bind (oe_So_octet hfg hN (by omega) (by omega) (by omega)) ?_; rintro ⟨_, _⟩ ⟨_, _⟩ ⟨⟨a9, L9, b9, h1, h2, h3, h4, h5⟩, h6⟩; dsimp only at h1 h2 h6; subst h1 h2 h6; try dsimp only [KSo.at_, KSo.limit, KSo.failed, KSo.bytes, KSo.mk])
    | (refine OE.bind (oe_So_fail hfg hN (by omega) (by omega) (by omega)) ?_; rintro _ _ ⟨a9, L9, b9, h1, h2, h3, h4, h5⟩; subst h1 h2; try dsimp only [KSo.at_, KSo.limit, KSo.failed, KSo.bytes, KSo.mk])
    | (refine OE.bind (oe_So_hasFailed hfg hN (by omega) (by omega) (by omega)) ?_; rintro _ _ h1; subst h1; try dsimp only [KSo.at_, KSo.limit, KSo.failed, KSo.bytes, KSo.mk])
    | (refine OE.bind (oe_So_hasMore hfg hN (by omega) (by omega) (by omega)) ?_; rintro _ _ h1; subst h1; try dsimp only [KSo.at_, KSo.limit, KSo.failed, KSo.bytes, KSo.mk])
    | (refine OE.bind (oe_So_require hfg hN (by omega) (by omega) (by omega) _) ?_; rintro _ _ ⟨a9, L9, b9, h1, h2, h3, h4, h5⟩; subst h1 h2; try dsimp only [KSo.at_, KSo.limit, KSo.failed, KSo.bytes, KSo.mk])
    | (refine OE.bind (oe_So_flag hfg hN (by omega) (by omega) (by omega)) ?_; rintro ⟨_, _⟩ ⟨_, _⟩ ⟨⟨a9, L9, b9, h1, h2, h3, h4, h5⟩, h6⟩; dsimp only at h1 h2 h6; subst h1 h2 h6; try dsimp only [KSo.at_, KSo.limit, KSo.failed, KSo.bytes, KSo.mk])
    | (refine OE.bind (oe_So_valueType hfg hN (by omega) (by omega) (by omega)) ?_; rintro ⟨_, _⟩ ⟨_, _⟩ ⟨⟨a9, L9, b9, h1, h2, h3, h4, h5⟩, h6⟩; dsimp only at h1 h2 h6; subst h1 h2 h6; try dsimp only [KSo.at_, KSo.limit, KSo.failed, KSo.bytes, KSo.mk])
    | (refine OE.bind (oe_So_left hfg hN (by omega) (by omega) (by omega)) ?_; rintro _ _ h1; subst h1; try dsimp only [KSo.at_, KSo.limit, KSo.failed, KSo.bytes, KSo.mk])
    | (refine OE.bind (oe_So_skipRest hfg hN (by omega) (by omega) (by omega)) ?_; rintro _ _ ⟨a9, L9, b9, h1, h2, h3, h4, h5⟩; subst h1 h2; try dsimp only [KSo.at_, KSo.limit, KSo.failed, KSo.bytes, KSo.mk])
    | (refine OE.bind (oe_So_widen (by omega) (by omega) (by omega)) ?_; rintro _ _ ⟨a9, L9, b9, h1, h2, h3, h4, h5⟩; subst h1 h2; try dsimp only [KSo.at_, KSo.limit, KSo.failed, KSo.bytes, KSo.mk])
    | (refine OE.bind (oe_uns hfg hN (by omega) (by omega) (by omega) _) ?_; rintro ⟨_, _⟩ ⟨_, _⟩ ⟨⟨a9, L9, b9, h1, h2, h3, h4, h5⟩, h6⟩; dsimp only at h1 h2 h6; subst h1 h2 h6; try dsimp only [KSo.at_, KSo.limit, KSo.failed, KSo.bytes, KSo.mk])
    | (refine OE.bind (oe_nar hfg hN (by omega) (by omega) (by omega)) ?_; rintro ⟨_, _⟩ ⟨_, _⟩ ⟨⟨a9, L9, b9, h1, h2, h3, h4, h5⟩, h6, h7, h8⟩; dsimp only at h1 h2 h6 h7 h8; subst h1 h2 h6; try dsimp only [KSo.at_, KSo.limit, KSo.failed, KSo.bytes, KSo.mk])
    | (refine OE.bind (oeL5_So_signed hfg hN _ _ _ _ _ _ _ (by omega) (by omega) (by omega)) ?_; rintro ⟨_, _⟩ ⟨_, _⟩ ⟨⟨a9, L9, b9, h1, h2, h3, h4, h5⟩, h6⟩; dsimp only at h1 h2 h6; subst h1 h2 h6; try dsimp only [KSo.at_, KSo.limit, KSo.failed, KSo.bytes, KSo.mk])
    | (refine OE.bind (oe_So_signed hfg hN (by omega) (by omega) (by omega) _) ?_; rintro ⟨_, _⟩ ⟨_, _⟩ ⟨⟨a9, L9, b9, h1, h2, h3, h4, h5⟩, h6⟩; dsimp only at h1 h2 h6; subst h1 h2 h6; try dsimp only [KSo.at_, KSo.limit, KSo.failed, KSo.bytes, KSo.mk])
    | (refine OE.same (fun _ => ?_)))
set_option maxRecDepth 20000 in
theorem oe_BR_turnToElse (hfg : ∀ k : Nat, (k : Int) < N → f k = g k) (hN : N ≤ 2000) {a L : Int} {b : Bool} (h0 : 0 ≤ a) (h1 : 0 ≤ L) (h2 : L ≤ N) (zCo : KCo) (zBR : KBR) (v_at : Int) : OE (Rp N f g) (f_BR_turnToElse (KSo.mk a L b f) zCo zBR v_at) (f_BR_turnToElse (KSo.mk a L b g) zCo zBR v_at) := by
  unfold f_BR_turnToElse
  simp only [jp, KSo.at_, KSo.limit, KSo.failed, KSo.bytes, KSo.mk]
  repeat' (first
    | (refine OE.ite (fun _ => ?_) (fun _ => ?_))
    | exact OE.bad
    | exact OE.ret ⟨(sq_mk (by omega) (by omega) (by omega)), rfl⟩
    | exact OE.ret (sq_mk (by omega) (by omega) (by omega))
    | exact OE.ret rfl
    | (refine OE.bind (oe_So_octet hfg hN (by omega) (by omega) (by omega)) ?_; rintro ⟨_, _⟩ ⟨_, _⟩ ⟨⟨a9, L9, b9, h1, h2, h3, h4, h5⟩, h6⟩; dsimp only at h1 h2 h6; subst h1 h2 h6; try dsimp only [KSo.at_, KSo.limit, KSo.failed, KSo.bytes, KSo.mk])
    | (refine OE.bind (oe_So_fail hfg hN (by omega) (by omega) (by omega)) ?_; rintro _ _ ⟨a9, L9, b9, h1, h2, h3, h4, h5⟩; subst h1 h2; try dsimp only [KSo.at_, KSo.limit, KSo.failed, KSo.bytes, KSo.mk])
    | (refine OE.bind (oe_So_hasFailed hfg hN (by omega) (by omega) (by omega)) ?_; rintro _ _ h1; subst h1; try dsimp only [KSo.at_, KSo.limit, KSo.failed, KSo.bytes, KSo.mk])
    | (refine OE.bind (oe_So_hasMore hfg hN (by omega) (by omega) (by omega)) ?_; rintro _ _ h1; subst h1; try dsimp only [KSo.at_, KSo.limit, KSo.failed, KSo.bytes, KSo.mk])
    | (refine OE.bind (oe_So_require hfg hN (by omega) (by omega) (by omega) _) ?_; rintro _ _ ⟨a9, L9, b9, h1, h2, h3, h4, h5⟩; subst h1 h2; try dsimp only [KSo.at_, KSo.limit, KSo.failed, KSo.bytes, KSo.mk])
    | (refine OE.bind (oe_So_flag hfg hN (by omega) (by omega) (by omega)) ?_; rintro ⟨_, _⟩ ⟨_, _⟩ ⟨⟨a9, L9, b9, h1, h2, h3, h4, h5⟩, h6⟩; dsimp only at h1 h2 h6; subst h1 h2 h6; try dsimp only [KSo.at_, KSo.limit, KSo.failed, KSo.bytes, KSo.mk])
    | (refine OE.bind (oe_So_valueType hfg hN (by omega) (by omega) (by omega)) ?_; rintro ⟨_, _⟩ ⟨_, _⟩ ⟨⟨a9, L9, b9, h1, h2, h3, h4, h5⟩, h6⟩; dsimp only at h1 h2 h6; subst h1 h2 h6; try dsimp only [KSo.at_, KSo.limit, KSo.failed, KSo.bytes, KSo.mk])
    | (refine OE.bind (oe_So_left hfg hN (by omega) (by omega) (by omega)) ?_; rintro _ _ h1; subst h1; try dsimp only [KSo.at_, KSo.limit, KSo.failed, KSo.bytes, KSo.mk])
    | (refine OE.bind (oe_So_skipRest hfg hN (by omega) (by omega) (by omega)) ?_; rintro _ _ ⟨a9, L9, b9, h1, h2, h3, h4, h5⟩; subst h1 h2; try dsimp only [KSo.at_, KSo.limit, KSo.failed, KSo.bytes, KSo.mk])
    | (refine OE.bind (oe_So_widen (by omega) (by omega) (by omega)) ?_; rintro _ _ ⟨a9, L9, b9, h1, h2, h3, h4, h5⟩; subst h1 h2; try dsimp only [KSo.at_, KSo.limit, KSo.failed, KSo.bytes, KSo.mk])
    | (refine OE.bind (oe_uns hfg hN (by omega) (by omega) (by omega) _) ?_; rintro ⟨_, _⟩ ⟨_, _⟩ ⟨⟨a9, L9, b9, h1, h2, h3, h4, h5⟩, h6⟩; dsimp only at h1 h2 h6; subst h1 h2 h6; try dsimp only [KSo.at_, KSo.limit, KSo.failed, KSo.bytes, KSo.mk])
    | (refine OE.bind (oe_nar hfg hN (by omega) (by omega) (by omega)) ?_; rintro ⟨_, _⟩ ⟨_, _⟩ ⟨⟨a9, L9, b9, h1, h2, h3, h4, h5⟩, h6, h7, h8⟩; dsimp only at h1 h2 h6 h7 h8; subst h1 h2 h6; try dsimp only [KSo.at_, KSo.limit, KSo.failed, KSo.bytes, KSo.mk])
    | (refine OE.bind (oeL5_So_signed hfg hN _ _ _ _ _ _ _ (by omega) (by omega) (by omega)) ?_; rintro ⟨_, _⟩ ⟨_, _⟩ ⟨⟨a9, L9, b9, h1, h2, h3, h4, h5⟩, h6⟩; dsimp only at h1 h2 h6; subst h1 h2 h6; try dsimp only [KSo.at_, KSo.limit, KSo.failed, KSo.bytes, KSo.mk])
    | (refine OE.bind (oe_So_signed hfg hN (by omega) (by omega) (by omega) _) ?_; rintro ⟨_, _⟩ ⟨_, _⟩ ⟨⟨a9, L9, b9, h1, h2, h3, h4, h5⟩, h6⟩; dsimp only at h1 h2 h6; subst h1 h2 h6; try dsimp only [KSo.at_, KSo.limit, KSo.failed, KSo.bytes, KSo.mk])
    | (refine OE.bind (oe_BR_openBlock hfg hN (by omega) (by omega) (by omega) _ _ _) ?_; rintro ⟨_, _⟩ ⟨_, _⟩ ⟨⟨a9, L9, b9, h1, h2, h3, h4, h5⟩, h6⟩; dsimp only at h1 h2 h6; subst h1 h2 h6; try dsimp only [KSo.at_, KSo.limit, KSo.failed, KSo.bytes, KSo.mk])
    | (refine OE.same (fun _ => ?_)))
set_option maxRecDepth 20000 in
theorem oeL41_BR_readTable (hfg : ∀ k : Nat, (k : Int) < N → f k = g k) (hN : N ≤ 2000) (a_x_1 L_x_1 : Int) (b_x_1 : Bool) (v_x_1 : Int64) : ∀ (n : Nat) (a L : Int) (b : Bool) (w1 : KCo) (w2 : KCt) (w3 : Int), 0 ≤ a → 0 ≤ L → L ≤ N → OE (Rp N f g) (L41_BR_readTable fu (KSo.mk a_x_1 L_x_1 b_x_1 f, v_x_1) n (KSo.mk a L b f) w1 w2 w3) (L41_BR_readTable fu (KSo.mk a_x_1 L_x_1 b_x_1 g, v_x_1) n (KSo.mk a L b g) w1 w2 w3) := by
  intro n
  induction n with
  | zero => intro a L b w1 w2 w3 h0 h1 h2; exact OE.bad
  | succ n ih =>
    intro a L b w1 w2 w3 h0 h1 h2
    rw [L41_BR_readTable.eq_2, L41_BR_readTable.eq_2]
    simp only [jp, KSo.at_, KSo.limit, KSo.failed, KSo.bytes, KSo.mk]
    repeat' (first
      | (refine OE.ite (fun _ => ?_) (fun _ => ?_))
      | exact OE.bad
      | exact OE.ret ⟨(sq_mk (by omega) (by omega) (by omega)), rfl⟩
      | exact OE.ret (sq_mk (by omega) (by omega) (by omega))
      | exact OE.ret rfl
      | exact ih _ _ _ _ _ _ (by omega) (by omega) (by omega)
      | (refine OE.bind (oe_So_octet hfg hN (by omega) (by omega) (by omega)) ?_; rintro ⟨_, _⟩ ⟨_, _⟩ ⟨⟨a9, L9, b9, h1, h2, h3, h4, h5⟩, h6⟩; dsimp only at h1 h2 h6; subst h1 h2 h6; try dsimp only [KSo.at_, KSo.limit, KSo.failed, KSo.bytes, KSo.mk])
      | (refine OE.bind (oe_So_fail hfg hN (by omega) (by omega) (by omega)) ?_; rintro _ _ ⟨a9, L9, b9, h1, h2, h3, h4, h5⟩; subst h1 h2; try dsimp only [KSo.at_, KSo.limit, KSo.failed, KSo.bytes, KSo.mk])
      | (refine OE.bind (oe_So_hasFailed hfg hN (by omega) (by omega) (by omega)) ?_; rintro _ _ h1; subst h1; try dsimp only [KSo.at_, KSo.limit, KSo.failed, KSo.bytes, KSo.mk])
      | (refine OE.bind (oe_So_hasMore hfg hN (by omega) (by omega) (by omega)) ?_; rintro _ _ h1; subst h1; try dsimp only [KSo.at_, KSo.limit, KSo.failed, KSo.bytes, KSo.mk])
      | (refine OE.bind (oe_So_require hfg hN (by omega) (by omega) (by omega) _) ?_; rintro _ _ ⟨a9, L9, b9, h1, h2, h3, h4, h5⟩; subst h1 h2; try dsimp only [KSo.at_, KSo.limit, KSo.failed, KSo.bytes, KSo.mk])
      | (refine OE.bind (oe_So_flag hfg hN (by omega) (by omega) (by omega)) ?_; rintro ⟨_, _⟩ ⟨_, _⟩ ⟨⟨a9, L9, b9, h1, h2, h3, h4, h5⟩, h6⟩; dsimp only at h1 h2 h6; subst h1 h2 h6; try dsimp only [KSo.at_, KSo.limit, KSo.failed, KSo.bytes, KSo.mk])
      | (refine OE.bind (oe_So_valueType hfg hN (by omega) (by omega) (by omega)) ?_; rintro ⟨_, _⟩ ⟨_, _⟩ ⟨⟨a9, L9, b9, h1, h2, h3, h4, h5⟩, h6⟩; dsimp only at h1 h2 h6; subst h1 h2 h6; try dsimp only [KSo.at_, KSo.limit, KSo.failed, KSo.bytes, KSo.mk])
      | (refine OE.bind (oe_So_left hfg hN (by omega) (by omega) (by omega)) ?_; rintro _ _ h1; subst h1; try dsimp only [KSo.at_, KSo.limit, KSo.failed, KSo.bytes, KSo.mk])
      | (refine OE.bind (oe_So_skipRest hfg hN (by omega) (by omega) (by omega)) ?_; rintro _ _ ⟨a9, L9, b9, h1, h2, h3, h4, h5⟩; subst h1 h2; try dsimp only [KSo.at_, KSo.limit, KSo.failed, KSo.bytes, KSo.mk])
      | (refine OE.bind (oe_So_widen (by omega) (by omega) (by omega)) ?_; rintro _ _ ⟨a9, L9, b9, h1, h2, h3, h4, h5⟩; subst h1 h2; try dsimp only [KSo.at_, KSo.limit, KSo.failed, KSo.bytes, KSo.mk])
      | (refine OE.bind (oe_uns hfg hN (by omega) (by omega) (by omega) _) ?_; rintro ⟨_, _⟩ ⟨_, _⟩ ⟨⟨a9, L9, b9, h1, h2, h3, h4, h5⟩, h6⟩; dsimp only at h1 h2 h6; subst h1 h2 h6; try dsimp only [KSo.at_, KSo.limit, KSo.failed, KSo.bytes, KSo.mk])
      | (refine OE.bind (oe_nar hfg hN (by omega) (by omega) (by omega)) ?_; rintro ⟨_, _⟩ ⟨_, _⟩ ⟨⟨a9, L9, b9, h1, h2, h3, h4, h5⟩, h6, h7, h8⟩; dsimp only at h1 h2 h6 h7 h8; subst h1 h2 h6; try dsimp only [KSo.at_, KSo.limit, KSo.failed, KSo.bytes, KSo.mk])
      | (refine OE.bind (oeL5_So_signed hfg hN _ _ _ _ _ _ _ (by omega) (by omega) (by omega)) ?_; rintro ⟨_, _⟩ ⟨_, _⟩ ⟨⟨a9, L9, b9, h1, h2, h3, h4, h5⟩, h6⟩; dsimp only at h1 h2 h6; subst h1 h2 h6; try dsimp only [KSo.at_, KSo.limit, KSo.failed, KSo.bytes, KSo.mk])
      | (refine OE.bind (oe_So_signed hfg hN (by omega) (by omega) (by omega) _) ?_; rintro ⟨_, _⟩ ⟨_, _⟩ ⟨⟨a9, L9, b9, h1, h2, h3, h4, h5⟩, h6⟩; dsimp only at h1 h2 h6; subst h1 h2 h6; try dsimp only [KSo.at_, KSo.limit, KSo.failed, KSo.bytes, KSo.mk])
      | (refine OE.bind (oe_BR_openBlock hfg hN (by omega) (by omega) (by omega) _ _ _) ?_; rintro ⟨_, _⟩ ⟨_, _⟩ ⟨⟨a9, L9, b9, h1, h2, h3, h4, h5⟩, h6⟩; dsimp only at h1 h2 h6; subst h1 h2 h6; try dsimp only [KSo.at_, KSo.limit, KSo.failed, KSo.bytes, KSo.mk])
      | (refine OE.bind (oe_BR_turnToElse hfg hN (by omega) (by omega) (by omega) _ _ _) ?_; rintro ⟨_, _⟩ ⟨_, _⟩ ⟨⟨a9, L9, b9, h1, h2, h3, h4, h5⟩, h6⟩; dsimp only at h1 h2 h6; subst h1 h2 h6; try dsimp only [KSo.at_, KSo.limit, KSo.failed, KSo.bytes, KSo.mk])
      | (refine OE.same (fun _ => ?_)))
set_option maxRecDepth 20000 in
theorem oe_BR_readTable (hfg : ∀ k : Nat, (k : Int) < N → f k = g k) (hN : N ≤ 2000) {a L : Int} {b : Bool} (h0 : 0 ≤ a) (h1 : 0 ≤ L) (h2 : L ≤ N) (zCo : KCo) (zCt : KCt) (v_at : Int) : OE (Rp N f g) (f_BR_readTable fu (KSo.mk a L b f) zCo zCt v_at) (f_BR_readTable fu (KSo.mk a L b g) zCo zCt v_at) := by
  unfold f_BR_readTable
  simp only [jp, KSo.at_, KSo.limit, KSo.failed, KSo.bytes, KSo.mk]
  repeat' (first
    | (refine OE.ite (fun _ => ?_) (fun _ => ?_))
    | exact OE.bad
    | exact OE.ret ⟨(sq_mk (by omega) (by omega) (by omega)), rfl⟩
    | exact OE.ret (sq_mk (by omega) (by omega) (by omega))
    | exact OE.ret rfl
    | (refine OE.bind (oe_So_octet hfg hN (by omega) (by omega) (by omega)) ?_; rintro ⟨_, _⟩ ⟨_, _⟩ ⟨⟨a9, L9, b9, h1, h2, h3, h4, h5⟩, h6⟩; dsimp only at h1 h2 h6; subst h1 h2 h6; try dsimp only [KSo.at_, KSo.limit, KSo.failed, KSo.bytes, KSo.mk])
    | (refine OE.bind (oe_So_fail hfg hN (by omega) (by omega) (by omega)) ?_; rintro _ _ ⟨a9, L9, b9, h1, h2, h3, h4, h5⟩; subst h1 h2; try dsimp only [KSo.at_, KSo.limit, KSo.failed, KSo.bytes, KSo.mk])
    | (refine OE.bind (oe_So_hasFailed hfg hN (by omega) (by omega) (by omega)) ?_; rintro _ _ h1; subst h1; try dsimp only [KSo.at_, KSo.limit, KSo.failed, KSo.bytes, KSo.mk])
    | (refine OE.bind (oe_So_hasMore hfg hN (by omega) (by omega) (by omega)) ?_; rintro _ _ h1; subst h1; try dsimp only [KSo.at_, KSo.limit, KSo.failed, KSo.bytes, KSo.mk])
    | (refine OE.bind (oe_So_require hfg hN (by omega) (by omega) (by omega) _) ?_; rintro _ _ ⟨a9, L9, b9, h1, h2, h3, h4, h5⟩; subst h1 h2; try dsimp only [KSo.at_, KSo.limit, KSo.failed, KSo.bytes, KSo.mk])
    | (refine OE.bind (oe_So_flag hfg hN (by omega) (by omega) (by omega)) ?_; rintro ⟨_, _⟩ ⟨_, _⟩ ⟨⟨a9, L9, b9, h1, h2, h3, h4, h5⟩, h6⟩; dsimp only at h1 h2 h6; subst h1 h2 h6; try dsimp only [KSo.at_, KSo.limit, KSo.failed, KSo.bytes, KSo.mk])
    | (refine OE.bind (oe_So_valueType hfg hN (by omega) (by omega) (by omega)) ?_; rintro ⟨_, _⟩ ⟨_, _⟩ ⟨⟨a9, L9, b9, h1, h2, h3, h4, h5⟩, h6⟩; dsimp only at h1 h2 h6; subst h1 h2 h6; try dsimp only [KSo.at_, KSo.limit, KSo.failed, KSo.bytes, KSo.mk])
    | (refine OE.bind (oe_So_left hfg hN (by omega) (by omega) (by omega)) ?_; rintro _ _ h1; subst h1; try dsimp only [KSo.at_, KSo.limit, KSo.failed, KSo.bytes, KSo.mk])
    | (refine OE.bind (oe_So_skipRest hfg hN (by omega) (by omega) (by omega)) ?_; rintro _ _ ⟨a9, L9, b9, h1, h2, h3, h4, h5⟩; subst h1 h2; try dsimp only [KSo.at_, KSo.limit, KSo.failed, KSo.bytes, KSo.mk])
    | (refine OE.bind (oe_So_widen (by omega) (by omega) (by omega)) ?_; rintro _ _ ⟨a9, L9, b9, h1, h2, h3, h4, h5⟩; subst h1 h2; try dsimp only [KSo.at_, KSo.limit, KSo.failed, KSo.bytes, KSo.mk])
    | (refine OE.bind (oe_uns hfg hN (by omega) (by omega) (by omega) _) ?_; rintro ⟨_, _⟩ ⟨_, _⟩ ⟨⟨a9, L9, b9, h1, h2, h3, h4, h5⟩, h6⟩; dsimp only at h1 h2 h6; subst h1 h2 h6; try dsimp only [KSo.at_, KSo.limit, KSo.failed, KSo.bytes, KSo.mk])
    | (refine OE.bind (oe_nar hfg hN (by omega) (by omega) (by omega)) ?_; rintro ⟨_, _⟩ ⟨_, _⟩ ⟨⟨a9, L9, b9, h1, h2, h3, h4, h5⟩, h6, h7, h8⟩; dsimp only at h1 h2 h6 h7 h8; subst h1 h2 h6; try dsimp only [KSo.at_, KSo.limit, KSo.failed, KSo.bytes, KSo.mk])
    | (refine OE.bind (oeL5_So_signed hfg hN _ _ _ _ _ _ _ (by omega) (by omega) (by omega)) ?_; rintro ⟨_, _⟩ ⟨_, _⟩ ⟨⟨a9, L9, b9, h1, h2, h3, h4, h5⟩, h6⟩; dsimp only at h1 h2 h6; subst h1 h2 h6; try dsimp only [KSo.at_, KSo.limit, KSo.failed, KSo.bytes, KSo.mk])
    | (refine OE.bind (oe_So_signed hfg hN (by omega) (by omega) (by omega) _) ?_; rintro ⟨_, _⟩ ⟨_, _⟩ ⟨⟨a9, L9, b9, h1, h2, h3, h4, h5⟩, h6⟩; dsimp only at h1 h2 h6; subst h1 h2 h6; try dsimp only [KSo.at_, KSo.limit, KSo.failed, KSo.bytes, KSo.mk])
    | (refine OE.bind (oe_BR_openBlock hfg hN (by omega) (by omega) (by omega) _ _ _) ?_; rintro ⟨_, _⟩ ⟨_, _⟩ ⟨⟨a9, L9, b9, h1, h2, h3, h4, h5⟩, h6⟩; dsimp only at h1 h2 h6; subst h1 h2 h6; try dsimp only [KSo.at_, KSo.limit, KSo.failed, KSo.bytes, KSo.mk])
    | (refine OE.bind (oe_BR_turnToElse hfg hN (by omega) (by omega) (by omega) _ _ _) ?_; rintro ⟨_, _⟩ ⟨_, _⟩ ⟨⟨a9, L9, b9, h1, h2, h3, h4, h5⟩, h6⟩; dsimp only at h1 h2 h6; subst h1 h2 h6; try dsimp only [KSo.at_, KSo.limit, KSo.failed, KSo.bytes, KSo.mk])
    | (refine OE.bind (oeL41_BR_readTable hfg hN _ _ _ _ _ _ _ _ _ _ _ (by omega) (by omega) (by omega)) ?_; rintro ⟨_, _⟩ ⟨_, _⟩ ⟨⟨a9, L9, b9, h1, h2, h3, h4, h5⟩, h6⟩; dsimp only at h1 h2 h6; subst h1 h2 h6; try dsimp only [KSo.at_, KSo.limit, KSo.failed, KSo.bytes, KSo.mk])
    | (refine OE.same (fun _ => ?_)))
set_option maxRecDepth 20000 in
theorem oe_BR_readImmediate (hfg : ∀ k : Nat, (k : Int) < N → f k = g k) (hN : N ≤ 2000) {a L : Int} {b : Bool} (h0 : 0 ≤ a) (h1 : 0 ≤ L) (h2 : L ≤ N) (zCo : KCo) (v_op : Int) (v_at : Int) : OE (Rp N f g) (f_BR_readImmediate fu (KSo.mk a L b f) zCo v_op v_at) (f_BR_readImmediate fu (KSo.mk a L b g) zCo v_op v_at) := by
  unfold f_BR_readImmediate
  simp only [jp, KSo.at_, KSo.limit, KSo.failed, KSo.bytes, KSo.mk]
  repeat' (first
    | (refine OE.ite (fun _ => ?_) (fun _ => ?_))
    | exact OE.bad
    | exact OE.ret ⟨(sq_mk (by omega) (by omega) (by omega)), rfl⟩
    | exact OE.ret (sq_mk (by omega) (by omega) (by omega))
    | exact OE.ret rfl
    | (refine OE.bind (oe_So_octet hfg hN (by omega) (by omega) (by omega)) ?_; rintro ⟨_, _⟩ ⟨_, _⟩ ⟨⟨a9, L9, b9, h1, h2, h3, h4, h5⟩, h6⟩; dsimp only at h1 h2 h6; subst h1 h2 h6; try dsimp only [KSo.at_, KSo.limit, KSo.failed, KSo.bytes, KSo.mk])
    | (refine OE.bind (oe_So_fail hfg hN (by omega) (by omega) (by omega)) ?_; rintro _ _ ⟨a9, L9, b9, h1, h2, h3, h4, h5⟩; subst h1 h2; try dsimp only [KSo.at_, KSo.limit, KSo.failed, KSo.bytes, KSo.mk])
    | (refine OE.bind (oe_So_hasFailed hfg hN (by omega) (by omega) (by omega)) ?_; rintro _ _ h1; subst h1; try dsimp only [KSo.at_, KSo.limit, KSo.failed, KSo.bytes, KSo.mk])
    | (refine OE.bind (oe_So_hasMore hfg hN (by omega) (by omega) (by omega)) ?_; rintro _ _ h1; subst h1; try dsimp only [KSo.at_, KSo.limit, KSo.failed, KSo.bytes, KSo.mk])
    | (refine OE.bind (oe_So_require hfg hN (by omega) (by omega) (by omega) _) ?_; rintro _ _ ⟨a9, L9, b9, h1, h2, h3, h4, h5⟩; subst h1 h2; try dsimp only [KSo.at_, KSo.limit, KSo.failed, KSo.bytes, KSo.mk])
    | (refine OE.bind (oe_So_flag hfg hN (by omega) (by omega) (by omega)) ?_; rintro ⟨_, _⟩ ⟨_, _⟩ ⟨⟨a9, L9, b9, h1, h2, h3, h4, h5⟩, h6⟩; dsimp only at h1 h2 h6; subst h1 h2 h6; try dsimp only [KSo.at_, KSo.limit, KSo.failed, KSo.bytes, KSo.mk])
    | (refine OE.bind (oe_So_valueType hfg hN (by omega) (by omega) (by omega)) ?_; rintro ⟨_, _⟩ ⟨_, _⟩ ⟨⟨a9, L9, b9, h1, h2, h3, h4, h5⟩, h6⟩; dsimp only at h1 h2 h6; subst h1 h2 h6; try dsimp only [KSo.at_, KSo.limit, KSo.failed, KSo.bytes, KSo.mk])
    | (refine OE.bind (oe_So_left hfg hN (by omega) (by omega) (by omega)) ?_; rintro _ _ h1; subst h1; try dsimp only [KSo.at_, KSo.limit, KSo.failed, KSo.bytes, KSo.mk])
    | (refine OE.bind (oe_So_skipRest hfg hN (by omega) (by omega) (by omega)) ?_; rintro _ _ ⟨a9, L9, b9, h1, h2, h3, h4, h5⟩; subst h1 h2; try dsimp only [KSo.at_, KSo.limit, KSo.failed, KSo.bytes, KSo.mk])
    | (refine OE.bind (oe_So_widen (by omega) (by omega) (by omega)) ?_; rintro _ _ ⟨a9, L9, b9, h1, h2, h3, h4, h5⟩; subst h1 h2; try dsimp only [KSo.at_, KSo.limit, KSo.failed, KSo.bytes, KSo.mk])
    | (refine OE.bind (oe_uns hfg hN (by omega) (by omega) (by omega) _) ?_; rintro ⟨_, _⟩ ⟨_, _⟩ ⟨⟨a9, L9, b9, h1, h2, h3, h4, h5⟩, h6⟩; dsimp only at h1 h2 h6; subst h1 h2 h6; try dsimp only [KSo.at_, KSo.limit, KSo.failed, KSo.bytes, KSo.mk])
    | (refine OE.bind (oe_nar hfg hN (by omega) (by omega) (by omega)) ?_; rintro ⟨_, _⟩ ⟨_, _⟩ ⟨⟨a9, L9, b9, h1, h2, h3, h4, h5⟩, h6, h7, h8⟩; dsimp only at h1 h2 h6 h7 h8; subst h1 h2 h6; try dsimp only [KSo.at_, KSo.limit, KSo.failed, KSo.bytes, KSo.mk])
    | (refine OE.bind (oeL5_So_signed hfg hN _ _ _ _ _ _ _ (by omega) (by omega) (by omega)) ?_; rintro ⟨_, _⟩ ⟨_, _⟩ ⟨⟨a9, L9, b9, h1, h2, h3, h4, h5⟩, h6⟩; dsimp only at h1 h2 h6; subst h1 h2 h6; try dsimp only [KSo.at_, KSo.limit, KSo.failed, KSo.bytes, KSo.mk])
    | (refine OE.bind (oe_So_signed hfg hN (by omega) (by omega) (by omega) _) ?_; rintro ⟨_, _⟩ ⟨_, _⟩ ⟨⟨a9, L9, b9, h1, h2, h3, h4, h5⟩, h6⟩; dsimp only at h1 h2 h6; subst h1 h2 h6; try dsimp only [KSo.at_, KSo.limit, KSo.failed, KSo.bytes, KSo.mk])
    | (refine OE.bind (oe_BR_openBlock hfg hN (by omega) (by omega) (by omega) _ _ _) ?_; rintro ⟨_, _⟩ ⟨_, _⟩ ⟨⟨a9, L9, b9, h1, h2, h3, h4, h5⟩, h6⟩; dsimp only at h1 h2 h6; subst h1 h2 h6; try dsimp only [KSo.at_, KSo.limit, KSo.failed, KSo.bytes, KSo.mk])
    | (refine OE.bind (oe_BR_turnToElse hfg hN (by omega) (by omega) (by omega) _ _ _) ?_; rintro ⟨_, _⟩ ⟨_, _⟩ ⟨⟨a9, L9, b9, h1, h2, h3, h4, h5⟩, h6⟩; dsimp only at h1 h2 h6; subst h1 h2 h6; try dsimp only [KSo.at_, KSo.limit, KSo.failed, KSo.bytes, KSo.mk])
    | (refine OE.bind (oeL41_BR_readTable hfg hN _ _ _ _ _ _ _ _ _ _ _ (by omega) (by omega) (by omega)) ?_; rintro ⟨_, _⟩ ⟨_, _⟩ ⟨⟨a9, L9, b9, h1, h2, h3, h4, h5⟩, h6⟩; dsimp only at h1 h2 h6; subst h1 h2 h6; try dsimp only [KSo.at_, KSo.limit, KSo.failed, KSo.bytes, KSo.mk])
    | (refine OE.bind (oe_BR_readTable hfg hN (by omega) (by omega) (by omega) _ _ _) ?_; rintro ⟨_, _⟩ ⟨_, _⟩ ⟨⟨a9, L9, b9, h1, h2, h3, h4, h5⟩, h6⟩; dsimp only at h1 h2 h6; subst h1 h2 h6; try dsimp only [KSo.at_, KSo.limit, KSo.failed, KSo.bytes, KSo.mk])
    | (refine OE.same (fun _ => ?_)))
set_option maxRecDepth 20000 in
theorem oe_BR_readInstruction (hfg : ∀ k : Nat, (k : Int) < N → f k = g k) (hN : N ≤ 2000) {a L : Int} {b : Bool} (h0 : 0 ≤ a) (h1 : 0 ≤ L) (h2 : L ≤ N) (zCo : KCo) (zCt : KCt) (zBR : KBR) : OE (Rp N f g) (f_BR_readInstruction fu (KSo.mk a L b f) zCo zCt zBR) (f_BR_readInstruction fu (KSo.mk a L b g) zCo zCt zBR) := by
  unfold f_BR_readInstruction
  simp only [jp, KSo.at_, KSo.limit, KSo.failed, KSo.bytes, KSo.mk]
  repeat' (first
    | (refine OE.ite (fun _ => ?_) (fun _ => ?_))
    | exact OE.bad
    | exact OE.ret ⟨(sq_mk (by omega) (by omega) (by omega)), rfl⟩
    | exact OE.ret (sq_mk (by omega) (by omega) (by omega))
    | exact OE.ret rfl
    | (refine OE.bind (oe_So_octet hfg hN (by omega) (by omega) (by omega)) ?_; rintro ⟨_, _⟩ ⟨_, _⟩ ⟨⟨a9, L9, b9, h1, h2, h3, h4, h5⟩, h6⟩; dsimp only at h1 h2 h6; subst h1 h2 h6; try dsimp only [KSo.at_, KSo.limit, KSo.failed, KSo.bytes, KSo.mk])
    | (refine OE.bind (oe_So_fail hfg hN (by omega) (by omega) (by omega)) ?_; rintro _ _ ⟨a9, L9, b9, h1, h2, h3, h4, h5⟩; subst h1 h2; try dsimp only [KSo.at_, KSo.limit, KSo.failed, KSo.bytes, KSo.mk])
    | (refine OE.bind (oe_So_hasFailed hfg hN (by omega) (by omega) (by omega)) ?_; rintro _ _ h1; subst h1; try dsimp only [KSo.at_, KSo.limit, KSo.failed, KSo.bytes, KSo.mk])
    | (refine OE.bind (oe_So_hasMore hfg hN (by omega) (by omega) (by omega)) ?_; rintro _ _ h1; subst h1; try dsimp only [KSo.at_, KSo.limit, KSo.failed, KSo.bytes, KSo.mk])
    | (refine OE.bind (oe_So_require hfg hN (by omega) (by omega) (by omega) _) ?_; rintro _ _ ⟨a9, L9, b9, h1, h2, h3, h4, h5⟩; subst h1 h2; try dsimp only [KSo.at_, KSo.limit, KSo.failed, KSo.bytes, KSo.mk])
    | (refine OE.bind (oe_So_flag hfg hN (by omega) (by omega) (by omega)) ?_; rintro ⟨_, _⟩ ⟨_, _⟩ ⟨⟨a9, L9, b9, h1, h2, h3, h4, h5⟩, h6⟩; dsimp only at h1 h2 h6; subst h1 h2 h6; try dsimp only [KSo.at_, KSo.limit, KSo.failed, KSo.bytes, KSo.mk])
    | (refine OE.bind (oe_So_valueType hfg hN (by omega) (by omega) (by omega)) ?_; rintro ⟨_, _⟩ ⟨_, _⟩ ⟨⟨a9, L9, b9, h1, h2, h3, h4, h5⟩, h6⟩; dsimp only at h1 h2 h6; subst h1 h2 h6; try dsimp only [KSo.at_, KSo.limit, KSo.failed, KSo.bytes, KSo.mk])
    | (refine OE.bind (oe_So_left hfg hN (by omega) (by omega) (by omega)) ?_; rintro _ _ h1; subst h1; try dsimp only [KSo.at_, KSo.limit, KSo.failed, KSo.bytes, KSo.mk])
    | (refine OE.bind (oe_So_skipRest hfg hN (by omega) (by omega) (by omega)) ?_; rintro _ _ ⟨a9, L9, b9, h1, h2, h3, h4, h5⟩; subst h1 h2; try dsimp only [KSo.at_, KSo.limit, KSo.failed, KSo.bytes, KSo.mk])
    | (refine OE.bind (oe_So_widen (by omega) (by omega) (by omega)) ?_; rintro _ _ ⟨a9, L9, b9, h1, h2, h3, h4, h5⟩; subst h1 h2; try dsimp only [KSo.at_, KSo.limit, KSo.failed, KSo.bytes, KSo.mk])
    | (refine OE.bind (oe_uns hfg hN (by omega) (by omega) (by omega) _) ?_; rintro ⟨_, _⟩ ⟨_, _⟩ ⟨⟨a9, L9, b9, h1, h2, h3, h4, h5⟩, h6⟩; dsimp only at h1 h2 h6; subst h1 h2 h6; try dsimp only [KSo.at_, KSo.limit, KSo.failed, KSo.bytes, KSo.mk])
    | (refine OE.bind (oe_nar hfg hN (by omega) (by omega) (by omega)) ?_; rintro ⟨_, _⟩ ⟨_, _⟩ ⟨⟨a9, L9, b9, h1, h2, h3, h4, h5⟩, h6, h7, h8⟩; dsimp only at h1 h2 h6 h7 h8; subst h1 h2 h6; try dsimp only [KSo.at_, KSo.limit, KSo.failed, KSo.bytes, KSo.mk])
    | (refine OE.bind (oeL5_So_signed hfg hN _ _ _ _ _ _ _ (by omega) (by omega) (by omega)) ?_; rintro ⟨_, _⟩ ⟨_, _⟩ ⟨⟨a9, L9, b9, h1, h2, h3, h4, h5⟩, h6⟩; dsimp only at h1 h2 h6; subst h1 h2 h6; try dsimp only [KSo.at_, KSo.limit, KSo.failed, KSo.bytes, KSo.mk])
    | (refine OE.bind (oe_So_signed hfg hN (by omega) (by omega) (by omega) _) ?_; rintro ⟨_, _⟩ ⟨_, _⟩ ⟨⟨a9, L9, b9, h1, h2, h3, h4, h5⟩, h6⟩; dsimp only at h1 h2 h6; subst h1 h2 h6; try dsimp only [KSo.at_, KSo.limit, KSo.failed, KSo.bytes, KSo.mk])
    | (refine OE.bind (oe_BR_openBlock hfg hN (by omega) (by omega) (by omega) _ _ _) ?_; rintro ⟨_, _⟩ ⟨_, _⟩ ⟨⟨a9, L9, b9, h1, h2, h3, h4, h5⟩, h6⟩; dsimp only at h1 h2 h6; subst h1 h2 h6; try dsimp only [KSo.at_, KSo.limit, KSo.failed, KSo.bytes, KSo.mk])
    | (refine OE.bind (oe_BR_turnToElse hfg hN (by omega) (by omega) (by omega) _ _ _) ?_; rintro ⟨_, _⟩ ⟨_, _⟩ ⟨⟨a9, L9, b9, h1, h2, h3, h4, h5⟩, h6⟩; dsimp only at h1 h2 h6; subst h1 h2 h6; try dsimp only [KSo.at_, KSo.limit, KSo.failed, KSo.bytes, KSo.mk])
    | (refine OE.bind (oeL41_BR_readTable hfg hN _ _ _ _ _ _ _ _ _ _ _ (by omega) (by omega) (by omega)) ?_; rintro ⟨_, _⟩ ⟨_, _⟩ ⟨⟨a9, L9, b9, h1, h2, h3, h4, h5⟩, h6⟩; dsimp only at h1 h2 h6; subst h1 h2 h6; try dsimp only [KSo.at_, KSo.limit, KSo.failed, KSo.bytes, KSo.mk])
    | (refine OE.bind (oe_BR_readTable hfg hN (by omega) (by omega) (by omega) _ _ _) ?_; rintro ⟨_, _⟩ ⟨_, _⟩ ⟨⟨a9, L9, b9, h1, h2, h3, h4, h5⟩, h6⟩; dsimp only at h1 h2 h6; subst h1 h2 h6; try dsimp only [KSo.at_, KSo.limit, KSo.failed, KSo.bytes, KSo.mk])
    | (refine OE.bind (oe_BR_readImmediate hfg hN (by omega) (by omega) (by omega) _ _ _) ?_; rintro ⟨_, _⟩ ⟨_, _⟩ ⟨⟨a9, L9, b9, h1, h2, h3, h4, h5⟩, h6⟩; dsimp only at h1 h2 h6; subst h1 h2 h6; try dsimp only [KSo.at_, KSo.limit, KSo.failed, KSo.bytes, KSo.mk])
    | (refine OE.same (fun _ => ?_)))
set_option maxRecDepth 20000 in
theorem oeL52_BR_readLocals (hfg : ∀ k : Nat, (k : Int) < N → f k = g k) (hN : N ≤ 2000) (v_f : Int) (a_x_16 L_x_16 : Int) (b_x_16 : Bool) (v_x_16 : Int64) (a_x_18 L_x_18 : Int) (b_x_18 : Bool) (v_x_18 : Int) : ∀ (n : Nat) (w0 : KWj) (w1 : Int) (w2 : Int), OE (fun p p' => p = p') (L52_BR_readLocals fu v_f (KSo.mk a_x_16 L_x_16 b_x_16 f, v_x_16) (KSo.mk a_x_18 L_x_18 b_x_18 f, v_x_18) n w0 w1 w2) (L52_BR_readLocals fu v_f (KSo.mk a_x_16 L_x_16 b_x_16 g, v_x_16) (KSo.mk a_x_18 L_x_18 b_x_18 g, v_x_18) n w0 w1 w2) := by
  intro n
  induction n with
  | zero => intro w0 w1 w2; exact OE.bad
  | succ n ih =>
    intro w0 w1 w2
    rw [L52_BR_readLocals.eq_2, L52_BR_readLocals.eq_2]
    simp only [jp, KSo.at_, KSo.limit, KSo.failed, KSo.bytes, KSo.mk]
    repeat' (first
      | (refine OE.ite (fun _ => ?_) (fun _ => ?_))
      | exact OE.bad
      | exact OE.ret ⟨(sq_mk (by omega) (by omega) (by omega)), rfl⟩
      | exact OE.ret (sq_mk (by omega) (by omega) (by omega))
      | exact OE.ret rfl
      | exact ih _ _ _
      | (refine OE.bind (oe_So_octet hfg hN (by omega) (by omega) (by omega)) ?_; rintro ⟨_, _⟩ ⟨_, _⟩ ⟨⟨a9, L9, b9, h1, h2, h3, h4, h5⟩, h6⟩; dsimp only at h1 h2 h6; subst h1 h2 h6; try dsimp only [KSo.at_, KSo.limit, KSo.failed, KSo.bytes, KSo.mk])
      | (refine OE.bind (oe_So_fail hfg hN (by omega) (by omega) (by omega)) ?_; rintro _ _ ⟨a9, L9, b9, h1, h2, h3, h4, h5⟩; subst h1 h2; try dsimp only [KSo.at_, KSo.limit, KSo.failed, KSo.bytes, KSo.mk])
      | (refine OE.bind (oe_So_hasFailed hfg hN (by omega) (by omega) (by omega)) ?_; rintro _ _ h1; subst h1; try dsimp only [KSo.at_, KSo.limit, KSo.failed, KSo.bytes, KSo.mk])
      | (refine OE.bind (oe_So_hasMore hfg hN (by omega) (by omega) (by omega)) ?_; rintro _ _ h1; subst h1; try dsimp only [KSo.at_, KSo.limit, KSo.failed, KSo.bytes, KSo.mk])
      | (refine OE.bind (oe_So_require hfg hN (by omega) (by omega) (by omega) _) ?_; rintro _ _ ⟨a9, L9, b9, h1, h2, h3, h4, h5⟩; subst h1 h2; try dsimp only [KSo.at_, KSo.limit, KSo.failed, KSo.bytes, KSo.mk])
      | (refine OE.bind (oe_So_flag hfg hN (by omega) (by omega) (by omega)) ?_; rintro ⟨_, _⟩ ⟨_, _⟩ ⟨⟨a9, L9, b9, h1, h2, h3, h4, h5⟩, h6⟩; dsimp only at h1 h2 h6; subst h1 h2 h6; try dsimp only [KSo.at_, KSo.limit, KSo.failed, KSo.bytes, KSo.mk])
      | (refine OE.bind (oe_So_valueType hfg hN (by omega) (by omega) (by omega)) ?_; rintro ⟨_, _⟩ ⟨_, _⟩ ⟨⟨a9, L9, b9, h1, h2, h3, h4, h5⟩, h6⟩; dsimp only at h1 h2 h6; subst h1 h2 h6; try dsimp only [KSo.at_, KSo.limit, KSo.failed, KSo.bytes, KSo.mk])
      | (refine OE.bind (oe_So_left hfg hN (by omega) (by omega) (by omega)) ?_; rintro _ _ h1; subst h1; try dsimp only [KSo.at_, KSo.limit, KSo.failed, KSo.bytes, KSo.mk])
      | (refine OE.bind (oe_So_skipRest hfg hN (by omega) (by omega) (by omega)) ?_; rintro _ _ ⟨a9, L9, b9, h1, h2, h3, h4, h5⟩; subst h1 h2; try dsimp only [KSo.at_, KSo.limit, KSo.failed, KSo.bytes, KSo.mk])
      | (refine OE.bind (oe_So_widen (by omega) (by omega) (by omega)) ?_; rintro _ _ ⟨a9, L9, b9, h1, h2, h3, h4, h5⟩; subst h1 h2; try dsimp only [KSo.at_, KSo.limit, KSo.failed, KSo.bytes, KSo.mk])
      | (refine OE.bind (oe_uns hfg hN (by omega) (by omega) (by omega) _) ?_; rintro ⟨_, _⟩ ⟨_, _⟩ ⟨⟨a9, L9, b9, h1, h2, h3, h4, h5⟩, h6⟩; dsimp only at h1 h2 h6; subst h1 h2 h6; try dsimp only [KSo.at_, KSo.limit, KSo.failed, KSo.bytes, KSo.mk])
      | (refine OE.bind (oe_nar hfg hN (by omega) (by omega) (by omega)) ?_; rintro ⟨_, _⟩ ⟨_, _⟩ ⟨⟨a9, L9, b9, h1, h2, h3, h4, h5⟩, h6, h7, h8⟩; dsimp only at h1 h2 h6 h7 h8; subst h1 h2 h6; try dsimp only [KSo.at_, KSo.limit, KSo.failed, KSo.bytes, KSo.mk])
      | (refine OE.bind (oeL5_So_signed hfg hN _ _ _ _ _ _ _ (by omega) (by omega) (by omega)) ?_; rintro ⟨_, _⟩ ⟨_, _⟩ ⟨⟨a9, L9, b9, h1, h2, h3, h4, h5⟩, h6⟩; dsimp only at h1 h2 h6; subst h1 h2 h6; try dsimp only [KSo.at_, KSo.limit, KSo.failed, KSo.bytes, KSo.mk])
      | (refine OE.bind (oe_So_signed hfg hN (by omega) (by omega) (by omega) _) ?_; rintro ⟨_, _⟩ ⟨_, _⟩ ⟨⟨a9, L9, b9, h1, h2, h3, h4, h5⟩, h6⟩; dsimp only at h1 h2 h6; subst h1 h2 h6; try dsimp only [KSo.at_, KSo.limit, KSo.failed, KSo.bytes, KSo.mk])
      | (refine OE.bind (oe_BR_openBlock hfg hN (by omega) (by omega) (by omega) _ _ _) ?_; rintro ⟨_, _⟩ ⟨_, _⟩ ⟨⟨a9, L9, b9, h1, h2, h3, h4, h5⟩, h6⟩; dsimp only at h1 h2 h6; subst h1 h2 h6; try dsimp only [KSo.at_, KSo.limit, KSo.failed, KSo.bytes, KSo.mk])
      | (refine OE.bind (oe_BR_turnToElse hfg hN (by omega) (by omega) (by omega) _ _ _) ?_; rintro ⟨_, _⟩ ⟨_, _⟩ ⟨⟨a9, L9, b9, h1, h2, h3, h4, h5⟩, h6⟩; dsimp only at h1 h2 h6; subst h1 h2 h6; try dsimp only [KSo.at_, KSo.limit, KSo.failed, KSo.bytes, KSo.mk])
      | (refine OE.bind (oeL41_BR_readTable hfg hN _ _ _ _ _ _ _ _ _ _ _ (by omega) (by omega) (by omega)) ?_; rintro ⟨_, _⟩ ⟨_, _⟩ ⟨⟨a9, L9, b9, h1, h2, h3, h4, h5⟩, h6⟩; dsimp only at h1 h2 h6; subst h1 h2 h6; try dsimp only [KSo.at_, KSo.limit, KSo.failed, KSo.bytes, KSo.mk])
      | (refine OE.bind (oe_BR_readTable hfg hN (by omega) (by omega) (by omega) _ _ _) ?_; rintro ⟨_, _⟩ ⟨_, _⟩ ⟨⟨a9, L9, b9, h1, h2, h3, h4, h5⟩, h6⟩; dsimp only at h1 h2 h6; subst h1 h2 h6; try dsimp only [KSo.at_, KSo.limit, KSo.failed, KSo.bytes, KSo.mk])
      | (refine OE.bind (oe_BR_readImmediate hfg hN (by omega) (by omega) (by omega) _ _ _) ?_; rintro ⟨_, _⟩ ⟨_, _⟩ ⟨⟨a9, L9, b9, h1, h2, h3, h4, h5⟩, h6⟩; dsimp only at h1 h2 h6; subst h1 h2 h6; try dsimp only [KSo.at_, KSo.limit, KSo.failed, KSo.bytes, KSo.mk])
      | (refine OE.bind (oe_BR_readInstruction hfg hN (by omega) (by omega) (by omega) _ _ _) ?_; rintro ⟨_, _⟩ ⟨_, _⟩ ⟨⟨a9, L9, b9, h1, h2, h3, h4, h5⟩, h6⟩; dsimp only at h1 h2 h6; subst h1 h2 h6; try dsimp only [KSo.at_, KSo.limit, KSo.failed, KSo.bytes, KSo.mk])
      | (refine OE.same (fun _ => ?_)))
set_option maxRecDepth 20000 in
theorem oeL18_BR_readLocals (hfg : ∀ k : Nat, (k : Int) < N → f k = g k) (hN : N ≤ 2000) (v_f : Int) (a_x_1 L_x_1 : Int) (b_x_1 : Bool) (v_x_1 : Int64) : ∀ (n : Nat) (a L : Int) (b : Bool) (w1 : KWj) (w2 : Int) (w3 : Int), 0 ≤ a → 0 ≤ L → L ≤ N → OE (Rp N f g) (L18_BR_readLocals fu v_f (KSo.mk a_x_1 L_x_1 b_x_1 f, v_x_1) n (KSo.mk a L b f) w1 w2 w3) (L18_BR_readLocals fu v_f (KSo.mk a_x_1 L_x_1 b_x_1 g, v_x_1) n (KSo.mk a L b g) w1 w2 w3) := by
  intro n
  induction n with
  | zero => intro a L b w1 w2 w3 h0 h1 h2; exact OE.bad
  | succ n ih =>
    intro a L b w1 w2 w3 h0 h1 h2
    rw [L18_BR_readLocals.eq_2, L18_BR_readLocals.eq_2]
    simp only [jp, KSo.at_, KSo.limit, KSo.failed, KSo.bytes, KSo.mk]
    repeat' (first
      | (refine OE.ite (fun _ => ?_) (fun _ => ?_))
      | exact OE.bad
      | exact OE.ret ⟨(sq_mk (by omega) (by omega) (by omega)), rfl⟩
      | exact OE.ret (sq_mk (by omega) (by omega) (by omega))
      | exact OE.ret rfl
      | exact ih _ _ _ _ _ _ (by omega) (by omega) (by omega)
      | (refine OE.bind (oe_So_octet hfg hN (by omega) (by omega) (by omega)) ?_; rintro ⟨_, _⟩ ⟨_, _⟩ ⟨⟨a9, L9, b9, h1, h2, h3, h4, h5⟩, h6⟩; dsimp only at h1 h2 h6; subst h1 h2 h6; try dsimp only [KSo.at_, KSo.limit, KSo.failed, KSo.bytes, KSo.mk])
      | (refine OE.bind (oe_So_fail hfg hN (by omega) (by omega) (by omega)) ?_; rintro _ _ ⟨a9, L9, b9, h1, h2, h3, h4, h5⟩; subst h1 h2; try dsimp only [KSo.at_, KSo.limit, KSo.failed, KSo.bytes, KSo.mk])
      | (refine OE.bind (oe_So_hasFailed hfg hN (by omega) (by omega) (by omega)) ?_; rintro _ _ h1; subst h1; try dsimp only [KSo.at_, KSo.limit, KSo.failed, KSo.bytes, KSo.mk])
      | (refine OE.bind (oe_So_hasMore hfg hN (by omega) (by omega) (by omega)) ?_; rintro _ _ h1; subst h1; try dsimp only [KSo.at_, KSo.limit, KSo.failed, KSo.bytes, KSo.mk])
      | (refine OE.bind (oe_So_require hfg hN (by omega) (by omega) (by omega) _) ?_; rintro _ _ ⟨a9, L9, b9, h1, h2, h3, h4, h5⟩; subst h1 h2; try dsimp only [KSo.at_, KSo.limit, KSo.failed, KSo.bytes, KSo.mk])
      | (refine OE.bind (oe_So_flag hfg hN (by omega) (by omega) (by omega)) ?_; rintro ⟨_, _⟩ ⟨_, _⟩ ⟨⟨a9, L9, b9, h1, h2, h3, h4, h5⟩, h6⟩; dsimp only at h1 h2 h6; subst h1 h2 h6; try dsimp only [KSo.at_, KSo.limit, KSo.failed, KSo.bytes, KSo.mk])
      | (refine OE.bind (oe_So_valueType hfg hN (by omega) (by omega) (by omega)) ?_; rintro ⟨_, _⟩ ⟨_, _⟩ ⟨⟨a9, L9, b9, h1, h2, h3, h4, h5⟩, h6⟩; dsimp only at h1 h2 h6; subst h1 h2 h6; try dsimp only [KSo.at_, KSo.limit, KSo.failed, KSo.bytes, KSo.mk])
      | (refine OE.bind (oe_So_left hfg hN (by omega) (by omega) (by omega)) ?_; rintro _ _ h1; subst h1; try dsimp only [KSo.at_, KSo.limit, KSo.failed, KSo.bytes, KSo.mk])
      | (refine OE.bind (oe_So_skipRest hfg hN (by omega) (by omega) (by omega)) ?_; rintro _ _ ⟨a9, L9, b9, h1, h2, h3, h4, h5⟩; subst h1 h2; try dsimp only [KSo.at_, KSo.limit, KSo.failed, KSo.bytes, KSo.mk])
      | (refine OE.bind (oe_So_widen (by omega) (by omega) (by omega)) ?_; rintro _ _ ⟨a9, L9, b9, h1, h2, h3, h4, h5⟩; subst h1 h2; try dsimp only [KSo.at_, KSo.limit, KSo.failed, KSo.bytes, KSo.mk])
      | (refine OE.bind (oe_uns hfg hN (by omega) (by omega) (by omega) _) ?_; rintro ⟨_, _⟩ ⟨_, _⟩ ⟨⟨a9, L9, b9, h1, h2, h3, h4, h5⟩, h6⟩; dsimp only at h1 h2 h6; subst h1 h2 h6; try dsimp only [KSo.at_, KSo.limit, KSo.failed, KSo.bytes, KSo.mk])
      | (refine OE.bind (oe_nar hfg hN (by omega) (by omega) (by omega)) ?_; rintro ⟨_, _⟩ ⟨_, _⟩ ⟨⟨a9, L9, b9, h1, h2, h3, h4, h5⟩, h6, h7, h8⟩; dsimp only at h1 h2 h6 h7 h8; subst h1 h2 h6; try dsimp only [KSo.at_, KSo.limit, KSo.failed, KSo.bytes, KSo.mk])
      | (refine OE.bind (oeL5_So_signed hfg hN _ _ _ _ _ _ _ (by omega) (by omega) (by omega)) ?_; rintro ⟨_, _⟩ ⟨_, _⟩ ⟨⟨a9, L9, b9, h1, h2, h3, h4, h5⟩, h6⟩; dsimp only at h1 h2 h6; subst h1 h2 h6; try dsimp only [KSo.at_, KSo.limit, KSo.failed, KSo.bytes, KSo.mk])
      | (refine OE.bind (oe_So_signed hfg hN (by omega) (by omega) (by omega) _) ?_; rintro ⟨_, _⟩ ⟨_, _⟩ ⟨⟨a9, L9, b9, h1, h2, h3, h4, h5⟩, h6⟩; dsimp only at h1 h2 h6; subst h1 h2 h6; try dsimp only [KSo.at_, KSo.limit, KSo.failed, KSo.bytes, KSo.mk])
      | (refine OE.bind (oe_BR_openBlock hfg hN (by omega) (by omega) (by omega) _ _ _) ?_; rintro ⟨_, _⟩ ⟨_, _⟩ ⟨⟨a9, L9, b9, h1, h2, h3, h4, h5⟩, h6⟩; dsimp only at h1 h2 h6; subst h1 h2 h6; try dsimp only [KSo.at_, KSo.limit, KSo.failed, KSo.bytes, KSo.mk])
      | (refine OE.bind (oe_BR_turnToElse hfg hN (by omega) (by omega) (by omega) _ _ _) ?_; rintro ⟨_, _⟩ ⟨_, _⟩ ⟨⟨a9, L9, b9, h1, h2, h3, h4, h5⟩, h6⟩; dsimp only at h1 h2 h6; subst h1 h2 h6; try dsimp only [KSo.at_, KSo.limit, KSo.failed, KSo.bytes, KSo.mk])
      | (refine OE.bind (oeL41_BR_readTable hfg hN _ _ _ _ _ _ _ _ _ _ _ (by omega) (by omega) (by omega)) ?_; rintro ⟨_, _⟩ ⟨_, _⟩ ⟨⟨a9, L9, b9, h1, h2, h3, h4, h5⟩, h6⟩; dsimp only at h1 h2 h6; subst h1 h2 h6; try dsimp only [KSo.at_, KSo.limit, KSo.failed, KSo.bytes, KSo.mk])
      | (refine OE.bind (oe_BR_readTable hfg hN (by omega) (by omega) (by omega) _ _ _) ?_; rintro ⟨_, _⟩ ⟨_, _⟩ ⟨⟨a9, L9, b9, h1, h2, h3, h4, h5⟩, h6⟩; dsimp only at h1 h2 h6; subst h1 h2 h6; try dsimp only [KSo.at_, KSo.limit, KSo.failed, KSo.bytes, KSo.mk])
      | (refine OE.bind (oe_BR_readImmediate hfg hN (by omega) (by omega) (by omega) _ _ _) ?_; rintro ⟨_, _⟩ ⟨_, _⟩ ⟨⟨a9, L9, b9, h1, h2, h3, h4, h5⟩, h6⟩; dsimp only at h1 h2 h6; subst h1 h2 h6; try dsimp only [KSo.at_, KSo.limit, KSo.failed, KSo.bytes, KSo.mk])
      | (refine OE.bind (oe_BR_readInstruction hfg hN (by omega) (by omega) (by omega) _ _ _) ?_; rintro ⟨_, _⟩ ⟨_, _⟩ ⟨⟨a9, L9, b9, h1, h2, h3, h4, h5⟩, h6⟩; dsimp only at h1 h2 h6; subst h1 h2 h6; try dsimp only [KSo.at_, KSo.limit, KSo.failed, KSo.bytes, KSo.mk])
      | (refine OE.bind (oeL52_BR_readLocals hfg hN _ _ _ _ _ _ _ _ _ _ _ _ _) ?_; rintro _ _ h1; subst h1; try dsimp only [KSo.at_, KSo.limit, KSo.failed, KSo.bytes, KSo.mk])
      | (refine OE.same (fun _ => ?_)))
set_option maxRecDepth 20000 in
theorem oe_BR_readLocals (hfg : ∀ k : Nat, (k : Int) < N → f k = g k) (hN : N ≤ 2000) {a L : Int} {b : Bool} (h0 : 0 ≤ a) (h1 : 0 ≤ L) (h2 : L ≤ N) (zWj : KWj) (v_f : Int) : OE (Rp N f g) (f_BR_readLocals fu (KSo.mk a L b f) zWj v_f) (f_BR_readLocals fu (KSo.mk a L b g) zWj v_f) := by
  unfold f_BR_readLocals
  simp only [jp, KSo.at_, KSo.limit, KSo.failed, KSo.bytes, KSo.mk]
  repeat' (first
    | (refine OE.ite (fun _ => ?_) (fun _ => ?_))
    | exact OE.bad
    | exact OE.ret ⟨(sq_mk (by omega) (by omega) (by omega)), rfl⟩
    | exact OE.ret (sq_mk (by omega) (by omega) (by omega))
    | exact OE.ret rfl
    | (refine OE.bind (oe_So_octet hfg hN (by omega) (by omega) (by omega)) ?_; rintro ⟨_, _⟩ ⟨_, _⟩ ⟨⟨a9, L9, b9, h1, h2, h3, h4, h5⟩, h6⟩; dsimp only at h1 h2 h6; subst h1 h2 h6; try dsimp only [KSo.at_, KSo.limit, KSo.failed, KSo.bytes, KSo.mk])
    | (refine OE.bind (oe_So_fail hfg hN (by omega) (by omega) (by omega)) ?_; rintro _ _ ⟨a9, L9, b9, h1, h2, h3, h4, h5⟩; subst h1 h2; try dsimp only [KSo.at_, KSo.limit, KSo.failed, KSo.bytes, KSo.mk])
    | (refine OE.bind (oe_So_hasFailed hfg hN (by omega) (by omega) (by omega)) ?_; rintro _ _ h1; subst h1; try dsimp only [KSo.at_, KSo.limit, KSo.failed, KSo.bytes, KSo.mk])
    | (refine OE.bind (oe_So_hasMore hfg hN (by omega) (by omega) (by omega)) ?_; rintro _ _ h1; subst h1; try dsimp only [KSo.at_, KSo.limit, KSo.failed, KSo.bytes, KSo.mk])
    | (refine OE.bind (oe_So_require hfg hN (by omega) (by omega) (by omega) _) ?_; rintro _ _ ⟨a9, L9, b9, h1, h2, h3, h4, h5⟩; subst h1 h2; try dsimp only [KSo.at_, KSo.limit, KSo.failed, KSo.bytes, KSo.mk])
    | (refine OE.bind (oe_So_flag hfg hN (by omega) (by omega) (by omega)) ?_; rintro ⟨_, _⟩ ⟨_, _⟩ ⟨⟨a9, L9, b9, h1, h2, h3, h4, h5⟩, h6⟩; dsimp only at h1 h2 h6; subst h1 h2 h6; try dsimp only [KSo.at_, KSo.limit, KSo.failed, KSo.bytes, KSo.mk])
    | (refine OE.bind (oe_So_valueType hfg hN (by omega) (by omega) (by omega)) ?_; rintro ⟨_, _⟩ ⟨_, _⟩ ⟨⟨a9, L9, b9, h1, h2, h3, h4, h5⟩, h6⟩; dsimp only at h1 h2 h6; subst h1 h2 h6; try dsimp only [KSo.at_, KSo.limit, KSo.failed, KSo.bytes, KSo.mk])
    | (refine OE.bind (oe_So_left hfg hN (by omega) (by omega) (by omega)) ?_; rintro _ _ h1; subst h1; try dsimp only [KSo.at_, KSo.limit, KSo.failed, KSo.bytes, KSo.mk])
    | (refine OE.bind (oe_So_skipRest hfg hN (by omega) (by omega) (by omega)) ?_; rintro _ _ ⟨a9, L9, b9, h1, h2, h3, h4, h5⟩; subst h1 h2; try dsimp only [KSo.at_, KSo.limit, KSo.failed, KSo.bytes, KSo.mk])
    | (refine OE.bind (oe_So_widen (by omega) (by omega) (by omega)) ?_; rintro _ _ ⟨a9, L9, b9, h1, h2, h3, h4, h5⟩; subst h1 h2; try dsimp only [KSo.at_, KSo.limit, KSo.failed, KSo.bytes, KSo.mk])
    | (refine OE.bind (oe_uns hfg hN (by omega) (by omega) (by omega) _) ?_; rintro ⟨_, _⟩ ⟨_, _⟩ ⟨⟨a9, L9, b9, h1, h2, h3, h4, h5⟩, h6⟩; dsimp only at h1 h2 h6; subst h1 h2 h6; try dsimp only [KSo.at_, KSo.limit, KSo.failed, KSo.bytes, KSo.mk])
    | (refine OE.bind (oe_nar hfg hN (by omega) (by omega) (by omega)) ?_; rintro ⟨_, _⟩ ⟨_, _⟩ ⟨⟨a9, L9, b9, h1, h2, h3, h4, h5⟩, h6, h7, h8⟩; dsimp only at h1 h2 h6 h7 h8; subst h1 h2 h6; try dsimp only [KSo.at_, KSo.limit, KSo.failed, KSo.bytes, KSo.mk])
    | (refine OE.bind (oeL5_So_signed hfg hN _ _ _ _ _ _ _ (by omega) (by omega) (by omega)) ?_; rintro ⟨_, _⟩ ⟨_, _⟩ ⟨⟨a9, L9, b9, h1, h2, h3, h4, h5⟩, h6⟩; dsimp only at h1 h2 h6; subst h1 h2 h6; try dsimp only [KSo.at_, KSo.limit, KSo.failed, KSo.bytes, KSo.mk])
    | (refine OE.bind (oe_So_signed hfg hN (by omega) (by omega) (by omega) _) ?_; rintro ⟨_, _⟩ ⟨_, _⟩ ⟨⟨a9, L9, b9, h1, h2, h3, h4, h5⟩, h6⟩; dsimp only at h1 h2 h6; subst h1 h2 h6; try dsimp only [KSo.at_, KSo.limit, KSo.failed, KSo.bytes, KSo.mk])
    | (refine OE.bind (oe_BR_openBlock hfg hN (by omega) (by omega) (by omega) _ _ _) ?_; rintro ⟨_, _⟩ ⟨_, _⟩ ⟨⟨a9, L9, b9, h1, h2, h3, h4, h5⟩, h6⟩; dsimp only at h1 h2 h6; subst h1 h2 h6; try dsimp only [KSo.at_, KSo.limit, KSo.failed, KSo.bytes, KSo.mk])
    | (refine OE.bind (oe_BR_turnToElse hfg hN (by omega) (by omega) (by omega) _ _ _) ?_; rintro ⟨_, _⟩ ⟨_, _⟩ ⟨⟨a9, L9, b9, h1, h2, h3, h4, h5⟩, h6⟩; dsimp only at h1 h2 h6; subst h1 h2 h6; try dsimp only [KSo.at_, KSo.limit, KSo.failed, KSo.bytes, KSo.mk])
    | (refine OE.bind (oeL41_BR_readTable hfg hN _ _ _ _ _ _ _ _ _ _ _ (by omega) (by omega) (by omega)) ?_; rintro ⟨_, _⟩ ⟨_, _⟩ ⟨⟨a9, L9, b9, h1, h2, h3, h4, h5⟩, h6⟩; dsimp only at h1 h2 h6; subst h1 h2 h6; try dsimp only [KSo.at_, KSo.limit, KSo.failed, KSo.bytes, KSo.mk])
    | (refine OE.bind (oe_BR_readTable hfg hN (by omega) (by omega) (by omega) _ _ _) ?_; rintro ⟨_, _⟩ ⟨_, _⟩ ⟨⟨a9, L9, b9, h1, h2, h3, h4, h5⟩, h6⟩; dsimp only at h1 h2 h6; subst h1 h2 h6; try dsimp only [KSo.at_, KSo.limit, KSo.failed, KSo.bytes, KSo.mk])
    | (refine OE.bind (oe_BR_readImmediate hfg hN (by omega) (by omega) (by omega) _ _ _) ?_; rintro ⟨_, _⟩ ⟨_, _⟩ ⟨⟨a9, L9, b9, h1, h2, h3, h4, h5⟩, h6⟩; dsimp only at h1 h2 h6; subst h1 h2 h6; try dsimp only [KSo.at_, KSo.limit, KSo.failed, KSo.bytes, KSo.mk])
    | (refine OE.bind (oe_BR_readInstruction hfg hN (by omega) (by omega) (by omega) _ _ _) ?_; rintro ⟨_, _⟩ ⟨_, _⟩ ⟨⟨a9, L9, b9, h1, h2, h3, h4, h5⟩, h6⟩; dsimp only at h1 h2 h6; subst h1 h2 h6; try dsimp only [KSo.at_, KSo.limit, KSo.failed, KSo.bytes, KSo.mk])
    | (refine OE.bind (oeL52_BR_readLocals hfg hN _ _ _ _ _ _ _ _ _ _ _ _ _) ?_; rintro _ _ h1; subst h1; try dsimp only [KSo.at_, KSo.limit, KSo.failed, KSo.bytes, KSo.mk])
    | (refine OE.bind (oeL18_BR_readLocals hfg hN _ _ _ _ _ _ _ _ _ _ _ _ (by omega) (by omega) (by omega)) ?_; rintro ⟨_, _⟩ ⟨_, _⟩ ⟨⟨a9, L9, b9, h1, h2, h3, h4, h5⟩, h6⟩; dsimp only at h1 h2 h6; subst h1 h2 h6; try dsimp only [KSo.at_, KSo.limit, KSo.failed, KSo.bytes, KSo.mk])
    | (refine OE.same (fun _ => ?_)))
set_option maxRecDepth 20000 in
theorem oeL73_BR_readAll (hfg : ∀ k : Nat, (k : Int) < N → f k = g k) (hN : N ≤ 2000)  : ∀ (n : Nat) (a L : Int) (b : Bool) (w1 : KCo) (w2 : KCt) (w3 : KBR) (w4 : Bool) (w5 : Int), 0 ≤ a → 0 ≤ L → L ≤ N → OE (Rp N f g) (L73_BR_readAll fu  n (KSo.mk a L b f) w1 w2 w3 w4 w5) (L73_BR_readAll fu  n (KSo.mk a L b g) w1 w2 w3 w4 w5) := by
  intro n
  induction n with
  | zero => intro a L b w1 w2 w3 w4 w5 h0 h1 h2; exact OE.bad
  | succ n ih =>
    intro a L b w1 w2 w3 w4 w5 h0 h1 h2
    rw [L73_BR_readAll.eq_2, L73_BR_readAll.eq_2]
    simp only [jp, KSo.at_, KSo.limit, KSo.failed, KSo.bytes, KSo.mk]
    repeat' (first
      | (refine OE.ite (fun _ => ?_) (fun _ => ?_))
      | exact OE.bad
      | exact OE.ret ⟨(sq_mk (by omega) (by omega) (by omega)), rfl⟩
      | exact OE.ret (sq_mk (by omega) (by omega) (by omega))
      | exact OE.ret rfl
      | exact ih _ _ _ _ _ _ _ _ (by omega) (by omega) (by omega)
      | (refine OE.bind (oe_So_octet hfg hN (by omega) (by omega) (by omega)) ?_; rintro ⟨_, _⟩ ⟨_, _⟩ ⟨⟨a9, L9, b9, h1, h2, h3, h4, h5⟩, h6⟩; dsimp only at h1 h2 h6; subst h1 h2 h6; try dsimp only [KSo.at_, KSo.limit, KSo.failed, KSo.bytes, KSo.mk])
      | (refine OE.bind (oe_So_fail hfg hN (by omega) (by omega) (by omega)) ?_; rintro _ _ ⟨a9, L9, b9, h1, h2, h3, h4, h5⟩; subst h1 h2; try dsimp only [KSo.at_, KSo.limit, KSo.failed, KSo.bytes, KSo.mk])
      | (refine OE.bind (oe_So_hasFailed hfg hN (by omega) (by omega) (by omega)) ?_; rintro _ _ h1; subst h1; try dsimp only [KSo.at_, KSo.limit, KSo.failed, KSo.bytes, KSo.mk])
      | (refine OE.bind (oe_So_hasMore hfg hN (by omega) (by omega) (by omega)) ?_; rintro _ _ h1; subst h1; try dsimp only [KSo.at_, KSo.limit, KSo.failed, KSo.bytes, KSo.mk])
      | (refine OE.bind (oe_So_require hfg hN (by omega) (by omega) (by omega) _) ?_; rintro _ _ ⟨a9, L9, b9, h1, h2, h3, h4, h5⟩; subst h1 h2; try dsimp only [KSo.at_, KSo.limit, KSo.failed, KSo.bytes, KSo.mk])
      | (refine OE.bind (oe_So_flag hfg hN (by omega) (by omega) (by omega)) ?_; rintro ⟨_, _⟩ ⟨_, _⟩ ⟨⟨a9, L9, b9, h1, h2, h3, h4, h5⟩, h6⟩; dsimp only at h1 h2 h6; subst h1 h2 h6; try dsimp only [KSo.at_, KSo.limit, KSo.failed, KSo.bytes, KSo.mk])
      | (refine OE.bind (oe_So_valueType hfg hN (by omega) (by omega) (by omega)) ?_; rintro ⟨_, _⟩ ⟨_, _⟩ ⟨⟨a9, L9, b9, h1, h2, h3, h4, h5⟩, h6⟩; dsimp only at h1 h2 h6; subst h1 h2 h6; try dsimp only [KSo.at_, KSo.limit, KSo.failed, KSo.bytes, KSo.mk])
      | (refine OE.bind (oe_So_left hfg hN (by omega) (by omega) (by omega)) ?_; rintro _ _ h1; subst h1; try dsimp only [KSo.at_, KSo.limit, KSo.failed, KSo.bytes, KSo.mk])
      | (refine OE.bind (oe_So_skipRest hfg hN (by omega) (by omega) (by omega)) ?_; rintro _ _ ⟨a9, L9, b9, h1, h2, h3, h4, h5⟩; subst h1 h2; try dsimp only [KSo.at_, KSo.limit, KSo.failed, KSo.bytes, KSo.mk])
      | (refine OE.bind (oe_So_widen (by omega) (by omega) (by omega)) ?_; rintro _ _ ⟨a9, L9, b9, h1, h2, h3, h4, h5⟩; subst h1 h2; try dsimp only [KSo.at_, KSo.limit, KSo.failed, KSo.bytes, KSo.mk])
      | (refine OE.bind (oe_uns hfg hN (by omega) (by omega) (by omega) _) ?_; rintro ⟨_, _⟩ ⟨_, _⟩ ⟨⟨a9, L9, b9, h1, h2, h3, h4, h5⟩, h6⟩; dsimp only at h1 h2 h6; subst h1 h2 h6; try dsimp only [KSo.at_, KSo.limit, KSo.failed, KSo.bytes, KSo.mk])
      | (refine OE.bind (oe_nar hfg hN (by omega) (by omega) (by omega)) ?_; rintro ⟨_, _⟩ ⟨_, _⟩ ⟨⟨a9, L9, b9, h1, h2, h3, h4, h5⟩, h6, h7, h8⟩; dsimp only at h1 h2 h6 h7 h8; subst h1 h2 h6; try dsimp only [KSo.at_, KSo.limit, KSo.failed, KSo.bytes, KSo.mk])
      | (refine OE.bind (oeL5_So_signed hfg hN _ _ _ _ _ _ _ (by omega) (by omega) (by omega)) ?_; rintro ⟨_, _⟩ ⟨_, _⟩ ⟨⟨a9, L9, b9, h1, h2, h3, h4, h5⟩, h6⟩; dsimp only at h1 h2 h6; subst h1 h2 h6; try dsimp only [KSo.at_, KSo.limit, KSo.failed, KSo.bytes, KSo.mk])
      | (refine OE.bind (oe_So_signed hfg hN (by omega) (by omega) (by omega) _) ?_; rintro ⟨_, _⟩ ⟨_, _⟩ ⟨⟨a9, L9, b9, h1, h2, h3, h4, h5⟩, h6⟩; dsimp only at h1 h2 h6; subst h1 h2 h6; try dsimp only [KSo.at_, KSo.limit, KSo.failed, KSo.bytes, KSo.mk])
      | (refine OE.bind (oe_BR_openBlock hfg hN (by omega) (by omega) (by omega) _ _ _) ?_; rintro ⟨_, _⟩ ⟨_, _⟩ ⟨⟨a9, L9, b9, h1, h2, h3, h4, h5⟩, h6⟩; dsimp only at h1 h2 h6; subst h1 h2 h6; try dsimp only [KSo.at_, KSo.limit, KSo.failed, KSo.bytes, KSo.mk])
      | (refine OE.bind (oe_BR_turnToElse hfg hN (by omega) (by omega) (by omega) _ _ _) ?_; rintro ⟨_, _⟩ ⟨_, _⟩ ⟨⟨a9, L9, b9, h1, h2, h3, h4, h5⟩, h6⟩; dsimp only at h1 h2 h6; subst h1 h2 h6; try dsimp only [KSo.at_, KSo.limit, KSo.failed, KSo.bytes, KSo.mk])
      | (refine OE.bind (oeL41_BR_readTable hfg hN _ _ _ _ _ _ _ _ _ _ _ (by omega) (by omega) (by omega)) ?_; rintro ⟨_, _⟩ ⟨_, _⟩ ⟨⟨a9, L9, b9, h1, h2, h3, h4, h5⟩, h6⟩; dsimp only at h1 h2 h6; subst h1 h2 h6; try dsimp only [KSo.at_, KSo.limit, KSo.failed, KSo.bytes, KSo.mk])
      | (refine OE.bind (oe_BR_readTable hfg hN (by omega) (by omega) (by omega) _ _ _) ?_; rintro ⟨_, _⟩ ⟨_, _⟩ ⟨⟨a9, L9, b9, h1, h2, h3, h4, h5⟩, h6⟩; dsimp only at h1 h2 h6; subst h1 h2 h6; try dsimp only [KSo.at_, KSo.limit, KSo.failed, KSo.bytes, KSo.mk])
      | (refine OE.bind (oe_BR_readImmediate hfg hN (by omega) (by omega) (by omega) _ _ _) ?_; rintro ⟨_, _⟩ ⟨_, _⟩ ⟨⟨a9, L9, b9, h1, h2, h3, h4, h5⟩, h6⟩; dsimp only at h1 h2 h6; subst h1 h2 h6; try dsimp only [KSo.at_, KSo.limit, KSo.failed, KSo.bytes, KSo.mk])
      | (refine OE.bind (oe_BR_readInstruction hfg hN (by omega) (by omega) (by omega) _ _ _) ?_; rintro ⟨_, _⟩ ⟨_, _⟩ ⟨⟨a9, L9, b9, h1, h2, h3, h4, h5⟩, h6⟩; dsimp only at h1 h2 h6; subst h1 h2 h6; try dsimp only [KSo.at_, KSo.limit, KSo.failed, KSo.bytes, KSo.mk])
      | (refine OE.bind (oeL52_BR_readLocals hfg hN _ _ _ _ _ _ _ _ _ _ _ _ _) ?_; rintro _ _ h1; subst h1; try dsimp only [KSo.at_, KSo.limit, KSo.failed, KSo.bytes, KSo.mk])
      | (refine OE.bind (oeL18_BR_readLocals hfg hN _ _ _ _ _ _ _ _ _ _ _ _ (by omega) (by omega) (by omega)) ?_; rintro ⟨_, _⟩ ⟨_, _⟩ ⟨⟨a9, L9, b9, h1, h2, h3, h4, h5⟩, h6⟩; dsimp only at h1 h2 h6; subst h1 h2 h6; try dsimp only [KSo.at_, KSo.limit, KSo.failed, KSo.bytes, KSo.mk])
      | (refine OE.bind (oe_BR_readLocals hfg hN (by omega) (by omega) (by omega) _ _) ?_; rintro ⟨_, _⟩ ⟨_, _⟩ ⟨⟨a9, L9, b9, h1, h2, h3, h4, h5⟩, h6⟩; dsimp only at h1 h2 h6; subst h1 h2 h6; try dsimp only [KSo.at_, KSo.limit, KSo.failed, KSo.bytes, KSo.mk])
      | (refine OE.same (fun _ => ?_)))
set_option maxRecDepth 20000 in
theorem oeL16_BR_readAll (hfg : ∀ k : Nat, (k : Int) < N → f k = g k) (hN : N ≤ 2000) (v_codeCount : Int) : ∀ (n : Nat) (a L : Int) (b : Bool) (w1 : KCo) (w2 : KCt) (w3 : KWj) (w4 : KBR) (w5 : Int), 0 ≤ a → 0 ≤ L → L ≤ N → OE (Rp N f g) (L16_BR_readAll fu v_codeCount n (KSo.mk a L b f) w1 w2 w3 w4 w5) (L16_BR_readAll fu v_codeCount n (KSo.mk a L b g) w1 w2 w3 w4 w5) := by
  intro n
  induction n with
  | zero => intro a L b w1 w2 w3 w4 w5 h0 h1 h2; exact OE.bad
  | succ n ih =>
    intro a L b w1 w2 w3 w4 w5 h0 h1 h2
    rw [L16_BR_readAll.eq_2, L16_BR_readAll.eq_2]
    simp only [jp, KSo.at_, KSo.limit, KSo.failed, KSo.bytes, KSo.mk]
    repeat' (first
      | (refine OE.ite (fun _ => ?_) (fun _ => ?_))
      | exact OE.bad
      | exact OE.ret ⟨(sq_mk (by omega) (by omega) (by omega)), rfl⟩
      | exact OE.ret (sq_mk (by omega) (by omega) (by omega))
      | exact OE.ret rfl
      | exact ih _ _ _ _ _ _ _ _ (by omega) (by omega) (by omega)
      | (refine OE.bind (oe_So_octet hfg hN (by omega) (by omega) (by omega)) ?_; rintro ⟨_, _⟩ ⟨_, _⟩ ⟨⟨a9, L9, b9, h1, h2, h3, h4, h5⟩, h6⟩; dsimp only at h1 h2 h6; subst h1 h2 h6; try dsimp only [KSo.at_, KSo.limit, KSo.failed, KSo.bytes, KSo.mk])
      | (refine OE.bind (oe_So_fail hfg hN (by omega) (by omega) (by omega)) ?_; rintro _ _ ⟨a9, L9, b9, h1, h2, h3, h4, h5⟩; subst h1 h2; try dsimp only [KSo.at_, KSo.limit, KSo.failed, KSo.bytes, KSo.mk])
      | (refine OE.bind (oe_So_hasFailed hfg hN (by omega) (by omega) (by omega)) ?_; rintro _ _ h1; subst h1; try dsimp only [KSo.at_, KSo.limit, KSo.failed, KSo.bytes, KSo.mk])
      | (refine OE.bind (oe_So_hasMore hfg hN (by omega) (by omega) (by omega)) ?_; rintro _ _ h1; subst h1; try dsimp only [KSo.at_, KSo.limit, KSo.failed, KSo.bytes, KSo.mk])
      | (refine OE.bind (oe_So_require hfg hN (by omega) (by omega) (by omega) _) ?_; rintro _ _ ⟨a9, L9, b9, h1, h2, h3, h4, h5⟩; subst h1 h2; try dsimp only [KSo.at_, KSo.limit, KSo.failed, KSo.bytes, KSo.mk])
      | (refine OE.bind (oe_So_flag hfg hN (by omega) (by omega) (by omega)) ?_; rintro ⟨_, _⟩ ⟨_, _⟩ ⟨⟨a9, L9, b9, h1, h2, h3, h4, h5⟩, h6⟩; dsimp only at h1 h2 h6; subst h1 h2 h6; try dsimp only [KSo.at_, KSo.limit, KSo.failed, KSo.bytes, KSo.mk])
      | (refine OE.bind (oe_So_valueType hfg hN (by omega) (by omega) (by omega)) ?_; rintro ⟨_, _⟩ ⟨_, _⟩ ⟨⟨a9, L9, b9, h1, h2, h3, h4, h5⟩, h6⟩; dsimp only at h1 h2 h6; subst h1 h2 h6; try dsimp only [KSo.at_, KSo.limit, KSo.failed, KSo.bytes, KSo.mk])
      | (refine OE.bind (oe_So_left hfg hN (by omega) (by omega) (by omega)) ?_; rintro _ _ h1; subst h1; try dsimp only [KSo.at_, KSo.limit, KSo.failed, KSo.bytes, KSo.mk])
      | (refine OE.bind (oe_So_skipRest hfg hN (by omega) (by omega) (by omega)) ?_; rintro _ _ ⟨a9, L9, b9, h1, h2, h3, h4, h5⟩; subst h1 h2; try dsimp only [KSo.at_, KSo.limit, KSo.failed, KSo.bytes, KSo.mk])
      | (refine OE.bind (oe_So_widen (by omega) (by omega) (by omega)) ?_; rintro _ _ ⟨a9, L9, b9, h1, h2, h3, h4, h5⟩; subst h1 h2; try dsimp only [KSo.at_, KSo.limit, KSo.failed, KSo.bytes, KSo.mk])
      | (refine OE.bind (oe_uns hfg hN (by omega) (by omega) (by omega) _) ?_; rintro ⟨_, _⟩ ⟨_, _⟩ ⟨⟨a9, L9, b9, h1, h2, h3, h4, h5⟩, h6⟩; dsimp only at h1 h2 h6; subst h1 h2 h6; try dsimp only [KSo.at_, KSo.limit, KSo.failed, KSo.bytes, KSo.mk])
      | (refine OE.bind (oe_nar hfg hN (by omega) (by omega) (by omega)) ?_; rintro ⟨_, _⟩ ⟨_, _⟩ ⟨⟨a9, L9, b9, h1, h2, h3, h4, h5⟩, h6, h7, h8⟩; dsimp only at h1 h2 h6 h7 h8; subst h1 h2 h6; try dsimp only [KSo.at_, KSo.limit, KSo.failed, KSo.bytes, KSo.mk])
      | (refine OE.bind (oeL5_So_signed hfg hN _ _ _ _ _ _ _ (by omega) (by omega) (by omega)) ?_; rintro ⟨_, _⟩ ⟨_, _⟩ ⟨⟨a9, L9, b9, h1, h2, h3, h4, h5⟩, h6⟩; dsimp only at h1 h2 h6; subst h1 h2 h6; try dsimp only [KSo.at_, KSo.limit, KSo.failed, KSo.bytes, KSo.mk])
      | (refine OE.bind (oe_So_signed hfg hN (by omega) (by omega) (by omega) _) ?_; rintro ⟨_, _⟩ ⟨_, _⟩ ⟨⟨a9, L9, b9, h1, h2, h3, h4, h5⟩, h6⟩; dsimp only at h1 h2 h6; subst h1 h2 h6; try dsimp only [KSo.at_, KSo.limit, KSo.failed, KSo.bytes, KSo.mk])
      | (refine OE.bind (oe_BR_openBlock hfg hN (by omega) (by omega) (by omega) _ _ _) ?_; rintro ⟨_, _⟩ ⟨_, _⟩ ⟨⟨a9, L9, b9, h1, h2, h3, h4, h5⟩, h6⟩; dsimp only at h1 h2 h6; subst h1 h2 h6; try dsimp only [KSo.at_, KSo.limit, KSo.failed, KSo.bytes, KSo.mk])
      | (refine OE.bind (oe_BR_turnToElse hfg hN (by omega) (by omega) (by omega) _ _ _) ?_; rintro ⟨_, _⟩ ⟨_, _⟩ ⟨⟨a9, L9, b9, h1, h2, h3, h4, h5⟩, h6⟩; dsimp only at h1 h2 h6; subst h1 h2 h6; try dsimp only [KSo.at_, KSo.limit, KSo.failed, KSo.bytes, KSo.mk])
      | (refine OE.bind (oeL41_BR_readTable hfg hN _ _ _ _ _ _ _ _ _ _ _ (by omega) (by omega) (by omega)) ?_; rintro ⟨_, _⟩ ⟨_, _⟩ ⟨⟨a9, L9, b9, h1, h2, h3, h4, h5⟩, h6⟩; dsimp only at h1 h2 h6; subst h1 h2 h6; try dsimp only [KSo.at_, KSo.limit, KSo.failed, KSo.bytes, KSo.mk])
      | (refine OE.bind (oe_BR_readTable hfg hN (by omega) (by omega) (by omega) _ _ _) ?_; rintro ⟨_, _⟩ ⟨_, _⟩ ⟨⟨a9, L9, b9, h1, h2, h3, h4, h5⟩, h6⟩; dsimp only at h1 h2 h6; subst h1 h2 h6; try dsimp only [KSo.at_, KSo.limit, KSo.failed, KSo.bytes, KSo.mk])
      | (refine OE.bind (oe_BR_readImmediate hfg hN (by omega) (by omega) (by omega) _ _ _) ?_; rintro ⟨_, _⟩ ⟨_, _⟩ ⟨⟨a9, L9, b9, h1, h2, h3, h4, h5⟩, h6⟩; dsimp only at h1 h2 h6; subst h1 h2 h6; try dsimp only [KSo.at_, KSo.limit, KSo.failed, KSo.bytes, KSo.mk])
      | (refine OE.bind (oe_BR_readInstruction hfg hN (by omega) (by omega) (by omega) _ _ _) ?_; rintro ⟨_, _⟩ ⟨_, _⟩ ⟨⟨a9, L9, b9, h1, h2, h3, h4, h5⟩, h6⟩; dsimp only at h1 h2 h6; subst h1 h2 h6; try dsimp only [KSo.at_, KSo.limit, KSo.failed, KSo.bytes, KSo.mk])
      | (refine OE.bind (oeL52_BR_readLocals hfg hN _ _ _ _ _ _ _ _ _ _ _ _ _) ?_; rintro _ _ h1; subst h1; try dsimp only [KSo.at_, KSo.limit, KSo.failed, KSo.bytes, KSo.mk])
      | (refine OE.bind (oeL18_BR_readLocals hfg hN _ _ _ _ _ _ _ _ _ _ _ _ (by omega) (by omega) (by omega)) ?_; rintro ⟨_, _⟩ ⟨_, _⟩ ⟨⟨a9, L9, b9, h1, h2, h3, h4, h5⟩, h6⟩; dsimp only at h1 h2 h6; subst h1 h2 h6; try dsimp only [KSo.at_, KSo.limit, KSo.failed, KSo.bytes, KSo.mk])
      | (refine OE.bind (oe_BR_readLocals hfg hN (by omega) (by omega) (by omega) _ _) ?_; rintro ⟨_, _⟩ ⟨_, _⟩ ⟨⟨a9, L9, b9, h1, h2, h3, h4, h5⟩, h6⟩; dsimp only at h1 h2 h6; subst h1 h2 h6; try dsimp only [KSo.at_, KSo.limit, KSo.failed, KSo.bytes, KSo.mk])
      | (refine OE.bind (oeL73_BR_readAll hfg hN _ _ _ _ _ _ _ _ _ (by omega) (by omega) (by omega)) ?_; rintro ⟨_, _⟩ ⟨_, _⟩ ⟨⟨a9, L9, b9, h1, h2, h3, h4, h5⟩, h6⟩; dsimp only at h1 h2 h6; subst h1 h2 h6; try dsimp only [KSo.at_, KSo.limit, KSo.failed, KSo.bytes, KSo.mk])
      | (refine OE.same (fun _ => ?_)))
set_option maxRecDepth 20000 in
theorem oe_BR_readAll (hfg : ∀ k : Nat, (k : Int) < N → f k = g k) (hN : N ≤ 2000) {a L : Int} {b : Bool} (h0 : 0 ≤ a) (h1 : 0 ≤ L) (h2 : L ≤ N) (zCo : KCo) (zCt : KCt) (zWj : KWj) (zBR : KBR) (v_codeCount : Int) : OE (Rp N f g) (f_BR_readAll fu (KSo.mk a L b f) zCo zCt zWj zBR v_codeCount) (f_BR_readAll fu (KSo.mk a L b g) zCo zCt zWj zBR v_codeCount) := by
  unfold f_BR_readAll
  simp only [jp, KSo.at_, KSo.limit, KSo.failed, KSo.bytes, KSo.mk]
  repeat' (first
    | (refine OE.ite (fun _ => ?_) (fun _ => ?_))
    | exact OE.bad
    | exact OE.ret ⟨(sq_mk (by omega) (by omega) (by omega)), rfl⟩
    | exact OE.ret (sq_mk (by omega) (by omega) (by omega))
    | exact OE.ret rfl
    | (refine OE.bind (oe_So_octet hfg hN (by omega) (by omega) (by omega)) ?_; rintro ⟨_, _⟩ ⟨_, _⟩ ⟨⟨a9, L9, b9, h1, h2, h3, h4, h5⟩, h6⟩; dsimp only at h1 h2 h6; subst h1 h2 h6; try dsimp only [KSo.at_, KSo.limit, KSo.failed, KSo.bytes, KSo.mk])
    | (refine OE.bind (oe_So_fail hfg hN (by omega) (by omega) (by omega)) ?_; rintro _ _ ⟨a9, L9, b9, h1, h2, h3, h4, h5⟩; subst h1 h2; try dsimp only [KSo.at_, KSo.limit, KSo.failed, KSo.bytes, KSo.mk])
    | (refine OE.bind (oe_So_hasFailed hfg hN (by omega) (by omega) (by omega)) ?_; rintro _ _ h1; subst h1; try dsimp only [KSo.at_, KSo.limit, KSo.failed, KSo.bytes, KSo.mk])
    | (refine OE.bind (oe_So_hasMore hfg hN (by omega) (by omega) (by omega)) ?_; rintro _ _ h1; subst h1; try dsimp only [KSo.at_, KSo.limit, KSo.failed, KSo.bytes, KSo.mk])
    | (refine OE.bind (oe_So_require hfg hN (by omega) (by omega) (by omega) _) ?_; rintro _ _ ⟨a9, L9, b9, h1, h2, h3, h4, h5⟩; subst h1 h2; try dsimp only [KSo.at_, KSo.limit, KSo.failed, KSo.bytes, KSo.mk])
    | (refine OE.bind (oe_So_flag hfg hN (by omega) (by omega) (by omega)) ?_; rintro ⟨_, _⟩ ⟨_, _⟩ ⟨⟨a9, L9, b9, h1, h2, h3, h4, h5⟩, h6⟩; dsimp only at h1 h2 h6; subst h1 h2 h6; try dsimp only [KSo.at_, KSo.limit, KSo.failed, KSo.bytes, KSo.mk])
    | (refine OE.bind (oe_So_valueType hfg hN (by omega) (by omega) (by omega)) ?_; rintro ⟨_, _⟩ ⟨_, _⟩ ⟨⟨a9, L9, b9, h1, h2, h3, h4, h5⟩, h6⟩; dsimp only at h1 h2 h6; subst h1 h2 h6; try dsimp only [KSo.at_, KSo.limit, KSo.failed, KSo.bytes, KSo.mk])
    | (refine OE.bind (oe_So_left hfg hN (by omega) (by omega) (by omega)) ?_; rintro _ _ h1; subst h1; try dsimp only [KSo.at_, KSo.limit, KSo.failed, KSo.bytes, KSo.mk])
    | (refine OE.bind (oe_So_skipRest hfg hN (by omega) (by omega) (by omega)) ?_; rintro _ _ ⟨a9, L9, b9, h1, h2, h3, h4, h5⟩; subst h1 h2; try dsimp only [KSo.at_, KSo.limit, KSo.failed, KSo.bytes, KSo.mk])
    | (refine OE.bind (oe_So_widen (by omega) (by omega) (by omega)) ?_; rintro _ _ ⟨a9, L9, b9, h1, h2, h3, h4, h5⟩; subst h1 h2; try dsimp only [KSo.at_, KSo.limit, KSo.failed, KSo.bytes, KSo.mk])
    | (refine OE.bind (oe_uns hfg hN (by omega) (by omega) (by omega) _) ?_; rintro ⟨_, _⟩ ⟨_, _⟩ ⟨⟨a9, L9, b9, h1, h2, h3, h4, h5⟩, h6⟩; dsimp only at h1 h2 h6; subst h1 h2 h6; try dsimp only [KSo.at_, KSo.limit, KSo.failed, KSo.bytes, KSo.mk])
    | (refine OE.bind (oe_nar hfg hN (by omega) (by omega) (by omega)) ?_; rintro ⟨_, _⟩ ⟨_, _⟩ ⟨⟨a9, L9, b9, h1, h2, h3, h4, h5⟩, h6, h7, h8⟩; dsimp only at h1 h2 h6 h7 h8; subst h1 h2 h6; try dsimp only [KSo.at_, KSo.limit, KSo.failed, KSo.bytes, KSo.mk])
    | (refine OE.bind (oeL5_So_signed hfg hN _ _ _ _ _ _ _ (by omega) (by omega) (by omega)) ?_; rintro ⟨_, _⟩ ⟨_, _⟩ ⟨⟨a9, L9, b9, h1, h2, h3, h4, h5⟩, h6⟩; dsimp only at h1 h2 h6; subst h1 h2 h6; try dsimp only [KSo.at_, KSo.limit, KSo.failed, KSo.bytes, KSo.mk])
    | (refine OE.bind (oe_So_signed hfg hN (by omega) (by omega) (by omega) _) ?_; rintro ⟨_, _⟩ ⟨_, _⟩ ⟨⟨a9, L9, b9, h1, h2, h3, h4, h5⟩, h6⟩; dsimp only at h1 h2 h6; subst h1 h2 h6; try dsimp only [KSo.at_, KSo.limit, KSo.failed, KSo.bytes, KSo.mk])
    | (refine OE.bind (oe_BR_openBlock hfg hN (by omega) (by omega) (by omega) _ _ _) ?_; rintro ⟨_, _⟩ ⟨_, _⟩ ⟨⟨a9, L9, b9, h1, h2, h3, h4, h5⟩, h6⟩; dsimp only at h1 h2 h6; subst h1 h2 h6; try dsimp only [KSo.at_, KSo.limit, KSo.failed, KSo.bytes, KSo.mk])
    | (refine OE.bind (oe_BR_turnToElse hfg hN (by omega) (by omega) (by omega) _ _ _) ?_; rintro ⟨_, _⟩ ⟨_, _⟩ ⟨⟨a9, L9, b9, h1, h2, h3, h4, h5⟩, h6⟩; dsimp only at h1 h2 h6; subst h1 h2 h6; try dsimp only [KSo.at_, KSo.limit, KSo.failed, KSo.bytes, KSo.mk])
    | (refine OE.bind (oeL41_BR_readTable hfg hN _ _ _ _ _ _ _ _ _ _ _ (by omega) (by omega) (by omega)) ?_; rintro ⟨_, _⟩ ⟨_, _⟩ ⟨⟨a9, L9, b9, h1, h2, h3, h4, h5⟩, h6⟩; dsimp only at h1 h2 h6; subst h1 h2 h6; try dsimp only [KSo.at_, KSo.limit, KSo.failed, KSo.bytes, KSo.mk])
    | (refine OE.bind (oe_BR_readTable hfg hN (by omega) (by omega) (by omega) _ _ _) ?_; rintro ⟨_, _⟩ ⟨_, _⟩ ⟨⟨a9, L9, b9, h1, h2, h3, h4, h5⟩, h6⟩; dsimp only at h1 h2 h6; subst h1 h2 h6; try dsimp only [KSo.at_, KSo.limit, KSo.failed, KSo.bytes, KSo.mk])
    | (refine OE.bind (oe_BR_readImmediate hfg hN (by omega) (by omega) (by omega) _ _ _) ?_; rintro ⟨_, _⟩ ⟨_, _⟩ ⟨⟨a9, L9, b9, h1, h2, h3, h4, h5⟩, h6⟩; dsimp only at h1 h2 h6; subst h1 h2 h6; try dsimp only [KSo.at_, KSo.limit, KSo.failed, KSo.bytes, KSo.mk])
    | (refine OE.bind (oe_BR_readInstruction hfg hN (by omega) (by omega) (by omega) _ _ _) ?_; rintro ⟨_, _⟩ ⟨_, _⟩ ⟨⟨a9, L9, b9, h1, h2, h3, h4, h5⟩, h6⟩; dsimp only at h1 h2 h6; subst h1 h2 h6; try dsimp only [KSo.at_, KSo.limit, KSo.failed, KSo.bytes, KSo.mk])
    | (refine OE.bind (oeL52_BR_readLocals hfg hN _ _ _ _ _ _ _ _ _ _ _ _ _) ?_; rintro _ _ h1; subst h1; try dsimp only [KSo.at_, KSo.limit, KSo.failed, KSo.bytes, KSo.mk])
    | (refine OE.bind (oeL18_BR_readLocals hfg hN _ _ _ _ _ _ _ _ _ _ _ _ (by omega) (by omega) (by omega)) ?_; rintro ⟨_, _⟩ ⟨_, _⟩ ⟨⟨a9, L9, b9, h1, h2, h3, h4, h5⟩, h6⟩; dsimp only at h1 h2 h6; subst h1 h2 h6; try dsimp only [KSo.at_, KSo.limit, KSo.failed, KSo.bytes, KSo.mk])
    | (refine OE.bind (oe_BR_readLocals hfg hN (by omega) (by omega) (by omega) _ _) ?_; rintro ⟨_, _⟩ ⟨_, _⟩ ⟨⟨a9, L9, b9, h1, h2, h3, h4, h5⟩, h6⟩; dsimp only at h1 h2 h6; subst h1 h2 h6; try dsimp only [KSo.at_, KSo.limit, KSo.failed, KSo.bytes, KSo.mk])
    | (refine OE.bind (oeL73_BR_readAll hfg hN _ _ _ _ _ _ _ _ _ (by omega) (by omega) (by omega)) ?_; rintro ⟨_, _⟩ ⟨_, _⟩ ⟨⟨a9, L9, b9, h1, h2, h3, h4, h5⟩, h6⟩; dsimp only at h1 h2 h6; subst h1 h2 h6; try dsimp only [KSo.at_, KSo.limit, KSo.failed, KSo.bytes, KSo.mk])
    | (refine OE.bind (oeL16_BR_readAll hfg hN _ _ _ _ _ _ _ _ _ _ (by omega) (by omega) (by omega)) ?_; rintro ⟨_, _⟩ ⟨_, _⟩ ⟨⟨a9, L9, b9, h1, h2, h3, h4, h5⟩, h6⟩; dsimp only at h1 h2 h6; subst h1 h2 h6; try dsimp only [KSo.at_, KSo.limit, KSo.failed, KSo.bytes, KSo.mk])
    | (refine OE.same (fun _ => ?_)))
set_option maxRecDepth 20000 in
theorem oe_Rd_readCustom (hfg : ∀ k : Nat, (k : Int) < N → f k = g k) (hN : N ≤ 2000) {a L : Int} {b : Bool} (h0 : 0 ≤ a) (h1 : 0 ≤ L) (h2 : L ≤ N)  : OE (Sq N f g) (f_Rd_readCustom fu (KSo.mk a L b f)) (f_Rd_readCustom fu (KSo.mk a L b g)) := by
  unfold f_Rd_readCustom
  simp only [jp, KSo.at_, KSo.limit, KSo.failed, KSo.bytes, KSo.mk]
  repeat' (first
    | (refine OE.ite (fun _ => ?_) (fun _ => ?_))
    | exact OE.bad
    | exact OE.ret ⟨(sq_mk (by omega) (by omega) (by omega)), rfl⟩
    | exact OE.ret (sq_mk (by omega) (by omega) (by omega))
    | exact OE.ret rfl
    | (refine OE.bind (oe_So_octet hfg hN (by omega) (by omega) (by omega)) ?_; rintro ⟨_, _⟩ ⟨_, _⟩ ⟨⟨a9, L9, b9, h1, h2, h3, h4, h5⟩, h6⟩; dsimp only at h1 h2 h6; subst h1 h2 h6; try dsimp only [KSo.at_, KSo.limit, KSo.failed, KSo.bytes, KSo.mk])
    | (refine OE.bind (oe_So_fail hfg hN (by omega) (by omega) (by omega)) ?_; rintro _ _ ⟨a9, L9, b9, h1, h2, h3, h4, h5⟩; subst h1 h2; try dsimp only [KSo.at_, KSo.limit, KSo.failed, KSo.bytes, KSo.mk])
    | (refine OE.bind (oe_So_hasFailed hfg hN (by omega) (by omega) (by omega)) ?_; rintro _ _ h1; subst h1; try dsimp only [KSo.at_, KSo.limit, KSo.failed, KSo.bytes, KSo.mk])
    | (refine OE.bind (oe_So_hasMore hfg hN (by omega) (by omega) (by omega)) ?_; rintro _ _ h1; subst h1; try dsimp only [KSo.at_, KSo.limit, KSo.failed, KSo.bytes, KSo.mk])
    | (refine OE.bind (oe_So_require hfg hN (by omega) (by omega) (by omega) _) ?_; rintro _ _ ⟨a9, L9, b9, h1, h2, h3, h4, h5⟩; subst h1 h2; try dsimp only [KSo.at_, KSo.limit, KSo.failed, KSo.bytes, KSo.mk])
    | (refine OE.bind (oe_So_flag hfg hN (by omega) (by omega) (by omega)) ?_; rintro ⟨_, _⟩ ⟨_, _⟩ ⟨⟨a9, L9, b9, h1, h2, h3, h4, h5⟩, h6⟩; dsimp only at h1 h2 h6; subst h1 h2 h6; try dsimp only [KSo.at_, KSo.limit, KSo.failed, KSo.bytes, KSo.mk])
    | (refine OE.bind (oe_So_valueType hfg hN (by omega) (by omega) (by omega)) ?_; rintro ⟨_, _⟩ ⟨_, _⟩ ⟨⟨a9, L9, b9, h1, h2, h3, h4, h5⟩, h6⟩; dsimp only at h1 h2 h6; subst h1 h2 h6; try dsimp only [KSo.at_, KSo.limit, KSo.failed, KSo.bytes, KSo.mk])
    | (refine OE.bind (oe_So_left hfg hN (by omega) (by omega) (by omega)) ?_; rintro _ _ h1; subst h1; try dsimp only [KSo.at_, KSo.limit, KSo.failed, KSo.bytes, KSo.mk])
    | (refine OE.bind (oe_So_skipRest hfg hN (by omega) (by omega) (by omega)) ?_; rintro _ _ ⟨a9, L9, b9, h1, h2, h3, h4, h5⟩; subst h1 h2; try dsimp only [KSo.at_, KSo.limit, KSo.failed, KSo.bytes, KSo.mk])
    | (refine OE.bind (oe_So_widen (by omega) (by omega) (by omega)) ?_; rintro _ _ ⟨a9, L9, b9, h1, h2, h3, h4, h5⟩; subst h1 h2; try dsimp only [KSo.at_, KSo.limit, KSo.failed, KSo.bytes, KSo.mk])
    | (refine OE.bind (oe_uns hfg hN (by omega) (by omega) (by omega) _) ?_; rintro ⟨_, _⟩ ⟨_, _⟩ ⟨⟨a9, L9, b9, h1, h2, h3, h4, h5⟩, h6⟩; dsimp only at h1 h2 h6; subst h1 h2 h6; try dsimp only [KSo.at_, KSo.limit, KSo.failed, KSo.bytes, KSo.mk])
    | (refine OE.bind (oe_nar hfg hN (by omega) (by omega) (by omega)) ?_; rintro ⟨_, _⟩ ⟨_, _⟩ ⟨⟨a9, L9, b9, h1, h2, h3, h4, h5⟩, h6, h7, h8⟩; dsimp only at h1 h2 h6 h7 h8; subst h1 h2 h6; try dsimp only [KSo.at_, KSo.limit, KSo.failed, KSo.bytes, KSo.mk])
    | (refine OE.bind (oeL5_So_signed hfg hN _ _ _ _ _ _ _ (by omega) (by omega) (by omega)) ?_; rintro ⟨_, _⟩ ⟨_, _⟩ ⟨⟨a9, L9, b9, h1, h2, h3, h4, h5⟩, h6⟩; dsimp only at h1 h2 h6; subst h1 h2 h6; try dsimp only [KSo.at_, KSo.limit, KSo.failed, KSo.bytes, KSo.mk])
    | (refine OE.bind (oe_So_signed hfg hN (by omega) (by omega) (by omega) _) ?_; rintro ⟨_, _⟩ ⟨_, _⟩ ⟨⟨a9, L9, b9, h1, h2, h3, h4, h5⟩, h6⟩; dsimp only at h1 h2 h6; subst h1 h2 h6; try dsimp only [KSo.at_, KSo.limit, KSo.failed, KSo.bytes, KSo.mk])
    | (refine OE.bind (oe_BR_openBlock hfg hN (by omega) (by omega) (by omega) _ _ _) ?_; rintro ⟨_, _⟩ ⟨_, _⟩ ⟨⟨a9, L9, b9, h1, h2, h3, h4, h5⟩, h6⟩; dsimp only at h1 h2 h6; subst h1 h2 h6; try dsimp only [KSo.at_, KSo.limit, KSo.failed, KSo.bytes, KSo.mk])
    | (refine OE.bind (oe_BR_turnToElse hfg hN (by omega) (by omega) (by omega) _ _ _) ?_; rintro ⟨_, _⟩ ⟨_, _⟩ ⟨⟨a9, L9, b9, h1, h2, h3, h4, h5⟩, h6⟩; dsimp only at h1 h2 h6; subst h1 h2 h6; try dsimp only [KSo.at_, KSo.limit, KSo.failed, KSo.bytes, KSo.mk])
    | (refine OE.bind (oeL41_BR_readTable hfg hN _ _ _ _ _ _ _ _ _ _ _ (by omega) (by omega) (by omega)) ?_; rintro ⟨_, _⟩ ⟨_, _⟩ ⟨⟨a9, L9, b9, h1, h2, h3, h4, h5⟩, h6⟩; dsimp only at h1 h2 h6; subst h1 h2 h6; try dsimp only [KSo.at_, KSo.limit, KSo.failed, KSo.bytes, KSo.mk])
    | (refine OE.bind (oe_BR_readTable hfg hN (by omega) (by omega) (by omega) _ _ _) ?_; rintro ⟨_, _⟩ ⟨_, _⟩ ⟨⟨a9, L9, b9, h1, h2, h3, h4, h5⟩, h6⟩; dsimp only at h1 h2 h6; subst h1 h2 h6; try dsimp only [KSo.at_, KSo.limit, KSo.failed, KSo.bytes, KSo.mk])
    | (refine OE.bind (oe_BR_readImmediate hfg hN (by omega) (by omega) (by omega) _ _ _) ?_; rintro ⟨_, _⟩ ⟨_, _⟩ ⟨⟨a9, L9, b9, h1, h2, h3, h4, h5⟩, h6⟩; dsimp only at h1 h2 h6; subst h1 h2 h6; try dsimp only [KSo.at_, KSo.limit, KSo.failed, KSo.bytes, KSo.mk])
    | (refine OE.bind (oe_BR_readInstruction hfg hN (by omega) (by omega) (by omega) _ _ _) ?_; rintro ⟨_, _⟩ ⟨_, _⟩ ⟨⟨a9, L9, b9, h1, h2, h3, h4, h5⟩, h6⟩; dsimp only at h1 h2 h6; subst h1 h2 h6; try dsimp only [KSo.at_, KSo.limit, KSo.failed, KSo.bytes, KSo.mk])
    | (refine OE.bind (oeL52_BR_readLocals hfg hN _ _ _ _ _ _ _ _ _ _ _ _ _) ?_; rintro _ _ h1; subst h1; try dsimp only [KSo.at_, KSo.limit, KSo.failed, KSo.bytes, KSo.mk])
    | (refine OE.bind (oeL18_BR_readLocals hfg hN _ _ _ _ _ _ _ _ _ _ _ _ (by omega) (by omega) (by omega)) ?_; rintro ⟨_, _⟩ ⟨_, _⟩ ⟨⟨a9, L9, b9, h1, h2, h3, h4, h5⟩, h6⟩; dsimp only at h1 h2 h6; subst h1 h2 h6; try dsimp only [KSo.at_, KSo.limit, KSo.failed, KSo.bytes, KSo.mk])
    | (refine OE.bind (oe_BR_readLocals hfg hN (by omega) (by omega) (by omega) _ _) ?_; rintro ⟨_, _⟩ ⟨_, _⟩ ⟨⟨a9, L9, b9, h1, h2, h3, h4, h5⟩, h6⟩; dsimp only at h1 h2 h6; subst h1 h2 h6; try dsimp only [KSo.at_, KSo.limit, KSo.failed, KSo.bytes, KSo.mk])
    | (refine OE.bind (oeL73_BR_readAll hfg hN _ _ _ _ _ _ _ _ _ (by omega) (by omega) (by omega)) ?_; rintro ⟨_, _⟩ ⟨_, _⟩ ⟨⟨a9, L9, b9, h1, h2, h3, h4, h5⟩, h6⟩; dsimp only at h1 h2 h6; subst h1 h2 h6; try dsimp only [KSo.at_, KSo.limit, KSo.failed, KSo.bytes, KSo.mk])
    | (refine OE.bind (oeL16_BR_readAll hfg hN _ _ _ _ _ _ _ _ _ _ (by omega) (by omega) (by omega)) ?_; rintro ⟨_, _⟩ ⟨_, _⟩ ⟨⟨a9, L9, b9, h1, h2, h3, h4, h5⟩, h6⟩; dsimp only at h1 h2 h6; subst h1 h2 h6; try dsimp only [KSo.at_, KSo.limit, KSo.failed, KSo.bytes, KSo.mk])
    | (refine OE.bind (oe_BR_readAll hfg hN (by omega) (by omega) (by omega) _ _ _ _ _) ?_; rintro ⟨_, _⟩ ⟨_, _⟩ ⟨⟨a9, L9, b9, h1, h2, h3, h4, h5⟩, h6⟩; dsimp only at h1 h2 h6; subst h1 h2 h6; try dsimp only [KSo.at_, KSo.limit, KSo.failed, KSo.bytes, KSo.mk])
    | (refine OE.same (fun _ => ?_)))
set_option maxRecDepth 20000 in
theorem oeL62_Rd_readTypes (hfg : ∀ k : Nat, (k : Int) < N → f k = g k) (hN : N ≤ 2000) (w_t_10 : Int) : ∀ (n : Nat) (a L : Int) (b : Bool) (w1 : KW1) (w2 : Int), 0 ≤ a → 0 ≤ L → L ≤ N → OE (Rp N f g) (L62_Rd_readTypes fu w_t_10 n (KSo.mk a L b f) w1 w2) (L62_Rd_readTypes fu w_t_10 n (KSo.mk a L b g) w1 w2) := by
  intro n
  induction n with
  | zero => intro a L b w1 w2 h0 h1 h2; exact OE.bad
  | succ n ih =>
    intro a L b w1 w2 h0 h1 h2
    rw [L62_Rd_readTypes.eq_2, L62_Rd_readTypes.eq_2]
    simp only [jp, KSo.at_, KSo.limit, KSo.failed, KSo.bytes, KSo.mk]
    repeat' (first
      | (refine OE.ite (fun _ => ?_) (fun _ => ?_))
      | exact OE.bad
      | exact OE.ret ⟨(sq_mk (by omega) (by omega) (by omega)), rfl⟩
      | exact OE.ret (sq_mk (by omega) (by omega) (by omega))
      | exact OE.ret rfl
      | exact ih _ _ _ _ _ (by omega) (by omega) (by omega)
      | (refine OE.bind (oe_So_octet hfg hN (by omega) (by omega) (by omega)) ?_; rintro ⟨_, _⟩ ⟨_, _⟩ ⟨⟨a9, L9, b9, h1, h2, h3, h4, h5⟩, h6⟩; dsimp only at h1 h2 h6; subst h1 h2 h6; try dsimp only [KSo.at_, KSo.limit, KSo.failed, KSo.bytes, KSo.mk])
      | (refine OE.bind (oe_So_fail hfg hN (by omega) (by omega) (by omega)) ?_; rintro _ _ ⟨a9, L9, b9, h1, h2, h3, h4, h5⟩; subst h1 h2; try dsimp only [KSo.at_, KSo.limit, KSo.failed, KSo.bytes, KSo.mk])
      | (refine OE.bind (oe_So_hasFailed hfg hN (by omega) (by omega) (by omega)) ?_; rintro _ _ h1; subst h1; try dsimp only [KSo.at_, KSo.limit, KSo.failed, KSo.bytes, KSo.mk])
      | (refine OE.bind (oe_So_hasMore hfg hN (by omega) (by omega) (by omega)) ?_; rintro _ _ h1; subst h1; try dsimp only [KSo.at_, KSo.limit, KSo.failed, KSo.bytes, KSo.mk])
      | (refine OE.bind (oe_So_require hfg hN (by omega) (by omega) (by omega) _) ?_; rintro _ _ ⟨a9, L9, b9, h1, h2, h3, h4, h5⟩; subst h1 h2; try dsimp only [KSo.at_, KSo.limit, KSo.failed, KSo.bytes, KSo.mk])
      | (refine OE.bind (oe_So_flag hfg hN (by omega) (by omega) (by omega)) ?_; rintro ⟨_, _⟩ ⟨_, _⟩ ⟨⟨a9, L9, b9, h1, h2, h3, h4, h5⟩, h6⟩; dsimp only at h1 h2 h6; subst h1 h2 h6; try dsimp only [KSo.at_, KSo.limit, KSo.failed, KSo.bytes, KSo.mk])
      | (refine OE.bind (oe_So_valueType hfg hN (by omega) (by omega) (by omega)) ?_; rintro ⟨_, _⟩ ⟨_, _⟩ ⟨⟨a9, L9, b9, h1, h2, h3, h4, h5⟩, h6⟩; dsimp only at h1 h2 h6; subst h1 h2 h6; try dsimp only [KSo.at_, KSo.limit, KSo.failed, KSo.bytes, KSo.mk])
      | (refine OE.bind (oe_So_left hfg hN (by omega) (by omega) (by omega)) ?_; rintro _ _ h1; subst h1; try dsimp only [KSo.at_, KSo.limit, KSo.failed, KSo.bytes, KSo.mk])
      | (refine OE.bind (oe_So_skipRest hfg hN (by omega) (by omega) (by omega)) ?_; rintro _ _ ⟨a9, L9, b9, h1, h2, h3, h4, h5⟩; subst h1 h2; try dsimp only [KSo.at_, KSo.limit, KSo.failed, KSo.bytes, KSo.mk])
      | (refine OE.bind (oe_So_widen (by omega) (by omega) (by omega)) ?_; rintro _ _ ⟨a9, L9, b9, h1, h2, h3, h4, h5⟩; subst h1 h2; try dsimp only [KSo.at_, KSo.limit, KSo.failed, KSo.bytes, KSo.mk])
      | (refine OE.bind (oe_uns hfg hN (by omega) (by omega) (by omega) _) ?_; rintro ⟨_, _⟩ ⟨_, _⟩ ⟨⟨a9, L9, b9, h1, h2, h3, h4, h5⟩, h6⟩; dsimp only at h1 h2 h6; subst h1 h2 h6; try dsimp only [KSo.at_, KSo.limit, KSo.failed, KSo.bytes, KSo.mk])
      | (refine OE.bind (oe_nar hfg hN (by omega) (by omega) (by omega)) ?_; rintro ⟨_, _⟩ ⟨_, _⟩ ⟨⟨a9, L9, b9, h1, h2, h3, h4, h5⟩, h6, h7, h8⟩; dsimp only at h1 h2 h6 h7 h8; subst h1 h2 h6; try dsimp only [KSo.at_, KSo.limit, KSo.failed, KSo.bytes, KSo.mk])
      | (refine OE.bind (oeL5_So_signed hfg hN _ _ _ _ _ _ _ (by omega) (by omega) (by omega)) ?_; rintro ⟨_, _⟩ ⟨_, _⟩ ⟨⟨a9, L9, b9, h1, h2, h3, h4, h5⟩, h6⟩; dsimp only at h1 h2 h6; subst h1 h2 h6; try dsimp only [KSo.at_, KSo.limit, KSo.failed, KSo.bytes, KSo.mk])
      | (refine OE.bind (oe_So_signed hfg hN (by omega) (by omega) (by omega) _) ?_; rintro ⟨_, _⟩ ⟨_, _⟩ ⟨⟨a9, L9, b9, h1, h2, h3, h4, h5⟩, h6⟩; dsimp only at h1 h2 h6; subst h1 h2 h6; try dsimp only [KSo.at_, KSo.limit, KSo.failed, KSo.bytes, KSo.mk])
      | (refine OE.bind (oe_BR_openBlock hfg hN (by omega) (by omega) (by omega) _ _ _) ?_; rintro ⟨_, _⟩ ⟨_, _⟩ ⟨⟨a9, L9, b9, h1, h2, h3, h4, h5⟩, h6⟩; dsimp only at h1 h2 h6; subst h1 h2 h6; try dsimp only [KSo.at_, KSo.limit, KSo.failed, KSo.bytes, KSo.mk])
      | (refine OE.bind (oe_BR_turnToElse hfg hN (by omega) (by omega) (by omega) _ _ _) ?_; rintro ⟨_, _⟩ ⟨_, _⟩ ⟨⟨a9, L9, b9, h1, h2, h3, h4, h5⟩, h6⟩; dsimp only at h1 h2 h6; subst h1 h2 h6; try dsimp only [KSo.at_, KSo.limit, KSo.failed, KSo.bytes, KSo.mk])
      | (refine OE.bind (oeL41_BR_readTable hfg hN _ _ _ _ _ _ _ _ _ _ _ (by omega) (by omega) (by omega)) ?_; rintro ⟨_, _⟩ ⟨_, _⟩ ⟨⟨a9, L9, b9, h1, h2, h3, h4, h5⟩, h6⟩; dsimp only at h1 h2 h6; subst h1 h2 h6; try dsimp only [KSo.at_, KSo.limit, KSo.failed, KSo.bytes, KSo.mk])
      | (refine OE.bind (oe_BR_readTable hfg hN (by omega) (by omega) (by omega) _ _ _) ?_; rintro ⟨_, _⟩ ⟨_, _⟩ ⟨⟨a9, L9, b9, h1, h2, h3, h4, h5⟩, h6⟩; dsimp only at h1 h2 h6; subst h1 h2 h6; try dsimp only [KSo.at_, KSo.limit, KSo.failed, KSo.bytes, KSo.mk])
      | (refine OE.bind (oe_BR_readImmediate hfg hN (by omega) (by omega) (by omega) _ _ _) ?_; rintro ⟨_, _⟩ ⟨_, _⟩ ⟨⟨a9, L9, b9, h1, h2, h3, h4, h5⟩, h6⟩; dsimp only at h1 h2 h6; subst h1 h2 h6; try dsimp only [KSo.at_, KSo.limit, KSo.failed, KSo.bytes, KSo.mk])
      | (refine OE.bind (oe_BR_readInstruction hfg hN (by omega) (by omega) (by omega) _ _ _) ?_; rintro ⟨_, _⟩ ⟨_, _⟩ ⟨⟨a9, L9, b9, h1, h2, h3, h4, h5⟩, h6⟩; dsimp only at h1 h2 h6; subst h1 h2 h6; try dsimp only [KSo.at_, KSo.limit, KSo.failed, KSo.bytes, KSo.mk])
      | (refine OE.bind (oeL52_BR_readLocals hfg hN _ _ _ _ _ _ _ _ _ _ _ _ _) ?_; rintro _ _ h1; subst h1; try dsimp only [KSo.at_, KSo.limit, KSo.failed, KSo.bytes, KSo.mk])
      | (refine OE.bind (oeL18_BR_readLocals hfg hN _ _ _ _ _ _ _ _ _ _ _ _ (by omega) (by omega) (by omega)) ?_; rintro ⟨_, _⟩ ⟨_, _⟩ ⟨⟨a9, L9, b9, h1, h2, h3, h4, h5⟩, h6⟩; dsimp only at h1 h2 h6; subst h1 h2 h6; try dsimp only [KSo.at_, KSo.limit, KSo.failed, KSo.bytes, KSo.mk])
      | (refine OE.bind (oe_BR_readLocals hfg hN (by omega) (by omega) (by omega) _ _) ?_; rintro ⟨_, _⟩ ⟨_, _⟩ ⟨⟨a9, L9, b9, h1, h2, h3, h4, h5⟩, h6⟩; dsimp only at h1 h2 h6; subst h1 h2 h6; try dsimp only [KSo.at_, KSo.limit, KSo.failed, KSo.bytes, KSo.mk])
      | (refine OE.bind (oeL73_BR_readAll hfg hN _ _ _ _ _ _ _ _ _ (by omega) (by omega) (by omega)) ?_; rintro ⟨_, _⟩ ⟨_, _⟩ ⟨⟨a9, L9, b9, h1, h2, h3, h4, h5⟩, h6⟩; dsimp only at h1 h2 h6; subst h1 h2 h6; try dsimp only [KSo.at_, KSo.limit, KSo.failed, KSo.bytes, KSo.mk])
      | (refine OE.bind (oeL16_BR_readAll hfg hN _ _ _ _ _ _ _ _ _ _ (by omega) (by omega) (by omega)) ?_; rintro ⟨_, _⟩ ⟨_, _⟩ ⟨⟨a9, L9, b9, h1, h2, h3, h4, h5⟩, h6⟩; dsimp only at h1 h2 h6; subst h1 h2 h6; try dsimp only [KSo.at_, KSo.limit, KSo.failed, KSo.bytes, KSo.mk])
      | (refine OE.bind (oe_BR_readAll hfg hN (by omega) (by omega) (by omega) _ _ _ _ _) ?_; rintro ⟨_, _⟩ ⟨_, _⟩ ⟨⟨a9, L9, b9, h1, h2, h3, h4, h5⟩, h6⟩; dsimp only at h1 h2 h6; subst h1 h2 h6; try dsimp only [KSo.at_, KSo.limit, KSo.failed, KSo.bytes, KSo.mk])
      | (refine OE.bind (oe_Rd_readCustom hfg hN (by omega) (by omega) (by omega)) ?_; rintro _ _ ⟨a9, L9, b9, h1, h2, h3, h4, h5⟩; subst h1 h2; try dsimp only [KSo.at_, KSo.limit, KSo.failed, KSo.bytes, KSo.mk])
      | (refine OE.same (fun _ => ?_)))
set_option maxRecDepth 20000 in
theorem oeL20_Rd_readTypes (hfg : ∀ k : Nat, (k : Int) < N → f k = g k) (hN : N ≤ 2000)  : ∀ (n : Nat) (a L : Int) (b : Bool) (w1 : KW1) (w2 : Int), 0 ≤ a → 0 ≤ L → L ≤ N → OE (Rp N f g) (L20_Rd_readTypes fu  n (KSo.mk a L b f) w1 w2) (L20_Rd_readTypes fu  n (KSo.mk a L b g) w1 w2) := by
  intro n
  induction n with
  | zero => intro a L b w1 w2 h0 h1 h2; exact OE.bad
  | succ n ih =>
    intro a L b w1 w2 h0 h1 h2
    rw [L20_Rd_readTypes.eq_2, L20_Rd_readTypes.eq_2]
    simp only [jp, KSo.at_, KSo.limit, KSo.failed, KSo.bytes, KSo.mk]
    repeat' (first
      | (refine OE.ite (fun _ => ?_) (fun _ => ?_))
      | exact OE.bad
      | exact OE.ret ⟨(sq_mk (by omega) (by omega) (by omega)), rfl⟩
      | exact OE.ret (sq_mk (by omega) (by omega) (by omega))
      | exact OE.ret rfl
      | exact ih _ _ _ _ _ (by omega) (by omega) (by omega)
      | (refine OE.bind (oe_So_octet hfg hN (by omega) (by omega) (by omega)) ?_; rintro ⟨_, _⟩ ⟨_, _⟩ ⟨⟨a9, L9, b9, h1, h2, h3, h4, h5⟩, h6⟩; dsimp only at h1 h2 h6; subst h1 h2 h6; try dsimp only [KSo.at_, KSo.limit, KSo.failed, KSo.bytes, KSo.mk])
      | (refine OE.bind (oe_So_fail hfg hN (by omega) (by omega) (by omega)) ?_; rintro _ _ ⟨a9, L9, b9, h1, h2, h3, h4, h5⟩; subst h1 h2; try dsimp only [KSo.at_, KSo.limit, KSo.failed, KSo.bytes, KSo.mk])
      | (refine OE.bind (oe_So_hasFailed hfg hN (by omega) (by omega) (by omega)) ?_; rintro _ _ h1; subst h1; try dsimp only [KSo.at_, KSo.limit, KSo.failed, KSo.bytes, KSo.mk])
      | (refine OE.bind (oe_So_hasMore hfg hN (by omega) (by omega) (by omega)) ?_; rintro _ _ h1; subst h1; try dsimp only [KSo.at_, KSo.limit, KSo.failed, KSo.bytes, KSo.mk])
      | (refine OE.bind (oe_So_require hfg hN (by omega) (by omega) (by omega) _) ?_; rintro _ _ ⟨a9, L9, b9, h1, h2, h3, h4, h5⟩; subst h1 h2; try dsimp only [KSo.at_, KSo.limit, KSo.failed, KSo.bytes, KSo.mk])
      | (refine OE.bind (oe_So_flag hfg hN (by omega) (by omega) (by omega)) ?_; rintro ⟨_, _⟩ ⟨_, _⟩ ⟨⟨a9, L9, b9, h1, h2, h3, h4, h5⟩, h6⟩; dsimp only at h1 h2 h6; subst h1 h2 h6; try dsimp only [KSo.at_, KSo.limit, KSo.failed, KSo.bytes, KSo.mk])
      | (refine OE.bind (oe_So_valueType hfg hN (by omega) (by omega) (by omega)) ?_; rintro ⟨_, _⟩ ⟨_, _⟩ ⟨⟨a9, L9, b9, h1, h2, h3, h4, h5⟩, h6⟩; dsimp only at h1 h2 h6; subst h1 h2 h6; try dsimp only [KSo.at_, KSo.limit, KSo.failed, KSo.bytes, KSo.mk])
      | (refine OE.bind (oe_So_left hfg hN (by omega) (by omega) (by omega)) ?_; rintro _ _ h1; subst h1; try dsimp only [KSo.at_, KSo.limit, KSo.failed, KSo.bytes, KSo.mk])
      | (refine OE.bind (oe_So_skipRest hfg hN (by omega) (by omega) (by omega)) ?_; rintro _ _ ⟨a9, L9, b9, h1, h2, h3, h4, h5⟩; subst h1 h2; try dsimp only [KSo.at_, KSo.limit, KSo.failed, KSo.bytes, KSo.mk])
      | (refine OE.bind (oe_So_widen (by omega) (by omega) (by omega)) ?_; rintro _ _ ⟨a9, L9, b9, h1, h2, h3, h4, h5⟩; subst h1 h2; try dsimp only [KSo.at_, KSo.limit, KSo.failed, KSo.bytes, KSo.mk])
      | (refine OE.bind (oe_uns hfg hN (by omega) (by omega) (by omega) _) ?_; rintro ⟨_, _⟩ ⟨_, _⟩ ⟨⟨a9, L9, b9, h1, h2, h3, h4, h5⟩, h6⟩; dsimp only at h1 h2 h6; subst h1 h2 h6; try dsimp only [KSo.at_, KSo.limit, KSo.failed, KSo.bytes, KSo.mk])
      | (refine OE.bind (oe_nar hfg hN (by omega) (by omega) (by omega)) ?_; rintro ⟨_, _⟩ ⟨_, _⟩ ⟨⟨a9, L9, b9, h1, h2, h3, h4, h5⟩, h6, h7, h8⟩; dsimp only at h1 h2 h6 h7 h8; subst h1 h2 h6; try dsimp only [KSo.at_, KSo.limit, KSo.failed, KSo.bytes, KSo.mk])
      | (refine OE.bind (oeL5_So_signed hfg hN _ _ _ _ _ _ _ (by omega) (by omega) (by omega)) ?_; rintro ⟨_, _⟩ ⟨_, _⟩ ⟨⟨a9, L9, b9, h1, h2, h3, h4, h5⟩, h6⟩; dsimp only at h1 h2 h6; subst h1 h2 h6; try dsimp only [KSo.at_, KSo.limit, KSo.failed, KSo.bytes, KSo.mk])
      | (refine OE.bind (oe_So_signed hfg hN (by omega) (by omega) (by omega) _) ?_; rintro ⟨_, _⟩ ⟨_, _⟩ ⟨⟨a9, L9, b9, h1, h2, h3, h4, h5⟩, h6⟩; dsimp only at h1 h2 h6; subst h1 h2 h6; try dsimp only [KSo.at_, KSo.limit, KSo.failed, KSo.bytes, KSo.mk])
      | (refine OE.bind (oe_BR_openBlock hfg hN (by omega) (by omega) (by omega) _ _ _) ?_; rintro ⟨_, _⟩ ⟨_, _⟩ ⟨⟨a9, L9, b9, h1, h2, h3, h4, h5⟩, h6⟩; dsimp only at h1 h2 h6; subst h1 h2 h6; try dsimp only [KSo.at_, KSo.limit, KSo.failed, KSo.bytes, KSo.mk])
      | (refine OE.bind (oe_BR_turnToElse hfg hN (by omega) (by omega) (by omega) _ _ _) ?_; rintro ⟨_, _⟩ ⟨_, _⟩ ⟨⟨a9, L9, b9, h1, h2, h3, h4, h5⟩, h6⟩; dsimp only at h1 h2 h6; subst h1 h2 h6; try dsimp only [KSo.at_, KSo.limit, KSo.failed, KSo.bytes, KSo.mk])
      | (refine OE.bind (oeL41_BR_readTable hfg hN _ _ _ _ _ _ _ _ _ _ _ (by omega) (by omega) (by omega)) ?_; rintro ⟨_, _⟩ ⟨_, _⟩ ⟨⟨a9, L9, b9, h1, h2, h3, h4, h5⟩, h6⟩; dsimp only at h1 h2 h6; subst h1 h2 h6; try dsimp only [KSo.at_, KSo.limit, KSo.failed, KSo.bytes, KSo.mk])
      | (refine OE.bind (oe_BR_readTable hfg hN (by omega) (by omega) (by omega) _ _ _) ?_; rintro ⟨_, _⟩ ⟨_, _⟩ ⟨⟨a9, L9, b9, h1, h2, h3, h4, h5⟩, h6⟩; dsimp only at h1 h2 h6; subst h1 h2 h6; try dsimp only [KSo.at_, KSo.limit, KSo.failed, KSo.bytes, KSo.mk])
      | (refine OE.bind (oe_BR_readImmediate hfg hN (by omega) (by omega) (by omega) _ _ _) ?_; rintro ⟨_, _⟩ ⟨_, _⟩ ⟨⟨a9, L9, b9, h1, h2, h3, h4, h5⟩, h6⟩; dsimp only at h1 h2 h6; subst h1 h2 h6; try dsimp only [KSo.at_, KSo.limit, KSo.failed, KSo.bytes, KSo.mk])
      | (refine OE.bind (oe_BR_readInstruction hfg hN (by omega) (by omega) (by omega) _ _ _) ?_; rintro ⟨_, _⟩ ⟨_, _⟩ ⟨⟨a9, L9, b9, h1, h2, h3, h4, h5⟩, h6⟩; dsimp only at h1 h2 h6; subst h1 h2 h6; try dsimp only [KSo.at_, KSo.limit, KSo.failed, KSo.bytes, KSo.mk])
      | (refine OE.bind (oeL52_BR_readLocals hfg hN _ _ _ _ _ _ _ _ _ _ _ _ _) ?_; rintro _ _ h1; subst h1; try dsimp only [KSo.at_, KSo.limit, KSo.failed, KSo.bytes, KSo.mk])
      | (refine OE.bind (oeL18_BR_readLocals hfg hN _ _ _ _ _ _ _ _ _ _ _ _ (by omega) (by omega) (by omega)) ?_; rintro ⟨_, _⟩ ⟨_, _⟩ ⟨⟨a9, L9, b9, h1, h2, h3, h4, h5⟩, h6⟩; dsimp only at h1 h2 h6; subst h1 h2 h6; try dsimp only [KSo.at_, KSo.limit, KSo.failed, KSo.bytes, KSo.mk])
      | (refine OE.bind (oe_BR_readLocals hfg hN (by omega) (by omega) (by omega) _ _) ?_; rintro ⟨_, _⟩ ⟨_, _⟩ ⟨⟨a9, L9, b9, h1, h2, h3, h4, h5⟩, h6⟩; dsimp only at h1 h2 h6; subst h1 h2 h6; try dsimp only [KSo.at_, KSo.limit, KSo.failed, KSo.bytes, KSo.mk])
      | (refine OE.bind (oeL73_BR_readAll hfg hN _ _ _ _ _ _ _ _ _ (by omega) (by omega) (by omega)) ?_; rintro ⟨_, _⟩ ⟨_, _⟩ ⟨⟨a9, L9, b9, h1, h2, h3, h4, h5⟩, h6⟩; dsimp only at h1 h2 h6; subst h1 h2 h6; try dsimp only [KSo.at_, KSo.limit, KSo.failed, KSo.bytes, KSo.mk])
      | (refine OE.bind (oeL16_BR_readAll hfg hN _ _ _ _ _ _ _ _ _ _ (by omega) (by omega) (by omega)) ?_; rintro ⟨_, _⟩ ⟨_, _⟩ ⟨⟨a9, L9, b9, h1, h2, h3, h4, h5⟩, h6⟩; dsimp only at h1 h2 h6; subst h1 h2 h6; try dsimp only [KSo.at_, KSo.limit, KSo.failed, KSo.bytes, KSo.mk])
      | (refine OE.bind (oe_BR_readAll hfg hN (by omega) (by omega) (by omega) _ _ _ _ _) ?_; rintro ⟨_, _⟩ ⟨_, _⟩ ⟨⟨a9, L9, b9, h1, h2, h3, h4, h5⟩, h6⟩; dsimp only at h1 h2 h6; subst h1 h2 h6; try dsimp only [KSo.at_, KSo.limit, KSo.failed, KSo.bytes, KSo.mk])
      | (refine OE.bind (oe_Rd_readCustom hfg hN (by omega) (by omega) (by omega)) ?_; rintro _ _ ⟨a9, L9, b9, h1, h2, h3, h4, h5⟩; subst h1 h2; try dsimp only [KSo.at_, KSo.limit, KSo.failed, KSo.bytes, KSo.mk])
      | (refine OE.bind (oeL62_Rd_readTypes hfg hN _ _ _ _ _ _ _ (by omega) (by omega) (by omega)) ?_; rintro ⟨_, _⟩ ⟨_, _⟩ ⟨⟨a9, L9, b9, h1, h2, h3, h4, h5⟩, h6⟩; dsimp only at h1 h2 h6; subst h1 h2 h6; try dsimp only [KSo.at_, KSo.limit, KSo.failed, KSo.bytes, KSo.mk])
      | (refine OE.same (fun _ => ?_)))
set_option maxRecDepth 20000 in
theorem oe_Rd_readTypes (hfg : ∀ k : Nat, (k : Int) < N → f k = g k) (hN : N ≤ 2000) {a L : Int} {b : Bool} (h0 : 0 ≤ a) (h1 : 0 ≤ L) (h2 : L ≤ N) (zW1 : KW1) : OE (Rp N f g) (f_Rd_readTypes fu (KSo.mk a L b f) zW1) (f_Rd_readTypes fu (KSo.mk a L b g) zW1) := by
  unfold f_Rd_readTypes
  simp only [jp, KSo.at_, KSo.limit, KSo.failed, KSo.bytes, KSo.mk]
  repeat' (first
    | (refine OE.ite (fun _ => ?_) (fun _ => ?_))
    | exact OE.bad
    | exact OE.ret ⟨(sq_mk (by omega) (by omega) (by omega)), rfl⟩
    | exact OE.ret (sq_mk (by omega) (by omega) (by omega))
    | exact OE.ret rfl
    | (refine OE.bind (oe_So_octet hfg hN (by omega) (by omega) (by omega)) ?_; rintro ⟨_, _⟩ ⟨_, _⟩ ⟨⟨a9, L9, b9, h1, h2, h3, h4, h5⟩, h6⟩; dsimp only at h1 h2 h6; subst h1 h2 h6; try dsimp only [KSo.at_, KSo.limit, KSo.failed, KSo.bytes, KSo.mk])
    | (refine OE.bind (oe_So_fail hfg hN (by omega) (by omega) (by omega)) ?_; rintro _ _ ⟨a9, L9, b9, h1, h2, h3, h4, h5⟩; subst h1 h2; try dsimp only [KSo.at_, KSo.limit, KSo.failed, KSo.bytes, KSo.mk])
    | (refine OE.bind (oe_So_hasFailed hfg hN (by omega) (by omega) (by omega)) ?_; rintro _ _ h1; subst h1; try dsimp only [KSo.at_, KSo.limit, KSo.failed, KSo.bytes, KSo.mk])
    | (refine OE.bind (oe_So_hasMore hfg hN (by omega) (by omega) (by omega)) ?_; rintro _ _ h1; subst h1; try dsimp only [KSo.at_, KSo.limit, KSo.failed, KSo.bytes, KSo.mk])
    | (refine OE.bind (oe_So_require hfg hN (by omega) (by omega) (by omega) _) ?_; rintro _ _ ⟨a9, L9, b9, h1, h2, h3, h4, h5⟩; subst h1 h2; try dsimp only [KSo.at_, KSo.limit, KSo.failed, KSo.bytes, KSo.mk])
    | (refine OE.bind (oe_So_flag hfg hN (by omega) (by omega) (by omega)) ?_; rintro ⟨_, _⟩ ⟨_, _⟩ ⟨⟨a9, L9, b9, h1, h2, h3, h4, h5⟩, h6⟩; dsimp only at h1 h2 h6; subst h1 h2 h6; try dsimp only [KSo.at_, KSo.limit, KSo.failed, KSo.bytes, KSo.mk])
    | (refine OE.bind (oe_So_valueType hfg hN (by omega) (by omega) (by omega)) ?_; rintro ⟨_, _⟩ ⟨_, _⟩ ⟨⟨a9, L9, b9, h1, h2, h3, h4, h5⟩, h6⟩; dsimp only at h1 h2 h6; subst h1 h2 h6; try dsimp only [KSo.at_, KSo.limit, KSo.failed, KSo.bytes, KSo.mk])
    | (refine OE.bind (oe_So_left hfg hN (by omega) (by omega) (by omega)) ?_; rintro _ _ h1; subst h1; try dsimp only [KSo.at_, KSo.limit, KSo.failed, KSo.bytes, KSo.mk])
    | (refine OE.bind (oe_So_skipRest hfg hN (by omega) (by omega) (by omega)) ?_; rintro _ _ ⟨a9, L9, b9, h1, h2, h3, h4, h5⟩; subst h1 h2; try dsimp only [KSo.at_, KSo.limit, KSo.failed, KSo.bytes, KSo.mk])
    | (refine OE.bind (oe_So_widen (by omega) (by omega) (by omega)) ?_; rintro _ _ ⟨a9, L9, b9, h1, h2, h3, h4, h5⟩; subst h1 h2; try dsimp only [KSo.at_, KSo.limit, KSo.failed, KSo.bytes, KSo.mk])
    | (refine OE.bind (oe_uns hfg hN (by omega) (by omega) (by omega) _) ?_; rintro ⟨_, _⟩ ⟨_, _⟩ ⟨⟨a9, L9, b9, h1, h2, h3, h4, h5⟩, h6⟩; dsimp only at h1 h2 h6; subst h1 h2 h6; try dsimp only [KSo.at_, KSo.limit, KSo.failed, KSo.bytes, KSo.mk])
    | (refine OE.bind (oe_nar hfg hN (by omega) (by omega) (by omega)) ?_; rintro ⟨_, _⟩ ⟨_, _⟩ ⟨⟨a9, L9, b9, h1, h2, h3, h4, h5⟩, h6, h7, h8⟩; dsimp only at h1 h2 h6 h7 h8; subst h1 h2 h6; try dsimp only [KSo.at_, KSo.limit, KSo.failed, KSo.bytes, KSo.mk])
    | (refine OE.bind (oeL5_So_signed hfg hN _ _ _ _ _ _ _ (by omega) (by omega) (by omega)) ?_; rintro ⟨_, _⟩ ⟨_, _⟩ ⟨⟨a9, L9, b9, h1, h2, h3, h4, h5⟩, h6⟩; dsimp only at h1 h2 h6; subst h1 h2 h6; try dsimp only [KSo.at_, KSo.limit, KSo.failed, KSo.bytes, KSo.mk])
    | (refine OE.bind (oe_So_signed hfg hN (by omega) (by omega) (by omega) _) ?_; rintro ⟨_, _⟩ ⟨_, _⟩ ⟨⟨a9, L9, b9, h1, h2, h3, h4, h5⟩, h6⟩; dsimp only at h1 h2 h6; subst h1 h2 h6; try dsimp only [KSo.at_, KSo.limit, KSo.failed, KSo.bytes, KSo.mk])
    | (refine OE.bind (oe_BR_openBlock hfg hN (by omega) (by omega) (by omega) _ _ _) ?_; rintro ⟨_, _⟩ ⟨_, _⟩ ⟨⟨a9, L9, b9, h1, h2, h3, h4, h5⟩, h6⟩; dsimp only at h1 h2 h6; subst h1 h2 h6; try dsimp only [KSo.at_, KSo.limit, KSo.failed, KSo.bytes, KSo.mk])
    | (refine OE.bind (oe_BR_turnToElse hfg hN (by omega) (by omega) (by omega) _ _ _) ?_; rintro ⟨_, _⟩ ⟨_, _⟩ ⟨⟨a9, L9, b9, h1, h2, h3, h4, h5⟩, h6⟩; dsimp only at h1 h2 h6; subst h1 h2 h6; try dsimp only [KSo.at_, KSo.limit, KSo.failed, KSo.bytes, KSo.mk])
    | (refine OE.bind (oeL41_BR_readTable hfg hN _ _ _ _ _ _ _ _ _ _ _ (by omega) (by omega) (by omega)) ?_; rintro ⟨_, _⟩ ⟨_, _⟩ ⟨⟨a9, L9, b9, h1, h2, h3, h4, h5⟩, h6⟩; dsimp only at h1 h2 h6; subst h1 h2 h6; try dsimp only [KSo.at_, KSo.limit, KSo.failed, KSo.bytes, KSo.mk])
    | (refine OE.bind (oe_BR_readTable hfg hN (by omega) (by omega) (by omega) _ _ _) ?_; rintro ⟨_, _⟩ ⟨_, _⟩ ⟨⟨a9, L9, b9, h1, h2, h3, h4, h5⟩, h6⟩; dsimp only at h1 h2 h6; subst h1 h2 h6; try dsimp only [KSo.at_, KSo.limit, KSo.failed, KSo.bytes, KSo.mk])
    | (refine OE.bind (oe_BR_readImmediate hfg hN (by omega) (by omega) (by omega) _ _ _) ?_; rintro ⟨_, _⟩ ⟨_, _⟩ ⟨⟨a9, L9, b9, h1, h2, h3, h4, h5⟩, h6⟩; dsimp only at h1 h2 h6; subst h1 h2 h6; try dsimp only [KSo.at_, KSo.limit, KSo.failed, KSo.bytes, KSo.mk])
    | (refine OE.bind (oe_BR_readInstruction hfg hN (by omega) (by omega) (by omega) _ _ _) ?_; rintro ⟨_, _⟩ ⟨_, _⟩ ⟨⟨a9, L9, b9, h1, h2, h3, h4, h5⟩, h6⟩; dsimp only at h1 h2 h6; subst h1 h2 h6; try dsimp only [KSo.at_, KSo.limit, KSo.failed, KSo.bytes, KSo.mk])
    | (refine OE.bind (oeL52_BR_readLocals hfg hN _ _ _ _ _ _ _ _ _ _ _ _ _) ?_; rintro _ _ h1; subst h1; try dsimp only [KSo.at_, KSo.limit, KSo.failed, KSo.bytes, KSo.mk])
    | (refine OE.bind (oeL18_BR_readLocals hfg hN _ _ _ _ _ _ _ _ _ _ _ _ (by omega) (by omega) (by omega)) ?_; rintro ⟨_, _⟩ ⟨_, _⟩ ⟨⟨a9, L9, b9, h1, h2, h3, h4, h5⟩, h6⟩; dsimp only at h1 h2 h6; subst h1 h2 h6; try dsimp only [KSo.at_, KSo.limit, KSo.failed, KSo.bytes, KSo.mk])
    | (refine OE.bind (oe_BR_readLocals hfg hN (by omega) (by omega) (by omega) _ _) ?_; rintro ⟨_, _⟩ ⟨_, _⟩ ⟨⟨a9, L9, b9, h1, h2, h3, h4, h5⟩, h6⟩; dsimp only at h1 h2 h6; subst h1 h2 h6; try dsimp only [KSo.at_, KSo.limit, KSo.failed, KSo.bytes, KSo.mk])
    | (refine OE.bind (oeL73_BR_readAll hfg hN _ _ _ _ _ _ _ _ _ (by omega) (by omega) (by omega)) ?_; rintro ⟨_, _⟩ ⟨_, _⟩ ⟨⟨a9, L9, b9, h1, h2, h3, h4, h5⟩, h6⟩; dsimp only at h1 h2 h6; subst h1 h2 h6; try dsimp only [KSo.at_, KSo.limit, KSo.failed, KSo.bytes, KSo.mk])
    | (refine OE.bind (oeL16_BR_readAll hfg hN _ _ _ _ _ _ _ _ _ _ (by omega) (by omega) (by omega)) ?_; rintro ⟨_, _⟩ ⟨_, _⟩ ⟨⟨a9, L9, b9, h1, h2, h3, h4, h5⟩, h6⟩; dsimp only at h1 h2 h6; subst h1 h2 h6; try dsimp only [KSo.at_, KSo.limit, KSo.failed, KSo.bytes, KSo.mk])
    | (refine OE.bind (oe_BR_readAll hfg hN (by omega) (by omega) (by omega) _ _ _ _ _) ?_; rintro ⟨_, _⟩ ⟨_, _⟩ ⟨⟨a9, L9, b9, h1, h2, h3, h4, h5⟩, h6⟩; dsimp only at h1 h2 h6; subst h1 h2 h6; try dsimp only [KSo.at_, KSo.limit, KSo.failed, KSo.bytes, KSo.mk])
    | (refine OE.bind (oe_Rd_readCustom hfg hN (by omega) (by omega) (by omega)) ?_; rintro _ _ ⟨a9, L9, b9, h1, h2, h3, h4, h5⟩; subst h1 h2; try dsimp only [KSo.at_, KSo.limit, KSo.failed, KSo.bytes, KSo.mk])
    | (refine OE.bind (oeL62_Rd_readTypes hfg hN _ _ _ _ _ _ _ (by omega) (by omega) (by omega)) ?_; rintro ⟨_, _⟩ ⟨_, _⟩ ⟨⟨a9, L9, b9, h1, h2, h3, h4, h5⟩, h6⟩; dsimp only at h1 h2 h6; subst h1 h2 h6; try dsimp only [KSo.at_, KSo.limit, KSo.failed, KSo.bytes, KSo.mk])
    | (refine OE.bind (oeL20_Rd_readTypes hfg hN _ _ _ _ _ _ (by omega) (by omega) (by omega)) ?_; rintro ⟨_, _⟩ ⟨_, _⟩ ⟨⟨a9, L9, b9, h1, h2, h3, h4, h5⟩, h6⟩; dsimp only at h1 h2 h6; subst h1 h2 h6; try dsimp only [KSo.at_, KSo.limit, KSo.failed, KSo.bytes, KSo.mk])
    | (refine OE.same (fun _ => ?_)))
set_option maxRecDepth 20000 in
theorem oeL20_Rd_readFunctions (hfg : ∀ k : Nat, (k : Int) < N → f k = g k) (hN : N ≤ 2000)  : ∀ (n : Nat) (a L : Int) (b : Bool) (w1 : KW3) (w2 : Int), 0 ≤ a → 0 ≤ L → L ≤ N → OE (Rp N f g) (L20_Rd_readFunctions fu  n (KSo.mk a L b f) w1 w2) (L20_Rd_readFunctions fu  n (KSo.mk a L b g) w1 w2) := by
  intro n
  induction n with
  | zero => intro a L b w1 w2 h0 h1 h2; exact OE.bad
  | succ n ih =>
    intro a L b w1 w2 h0 h1 h2
    rw [L20_Rd_readFunctions.eq_2, L20_Rd_readFunctions.eq_2]
    simp only [jp, KSo.at_, KSo.limit, KSo.failed, KSo.bytes, KSo.mk]
    repeat' (first
      | (refine OE.ite (fun _ => ?_) (fun _ => ?_))
      | exact OE.bad
      | exact OE.ret ⟨(sq_mk (by omega) (by omega) (by omega)), rfl⟩
      | exact OE.ret (sq_mk (by omega) (by omega) (by omega))
      | exact OE.ret rfl
      | exact ih _ _ _ _ _ (by omega) (by omega) (by omega)
      | (refine OE.bind (oe_So_octet hfg hN (by omega) (by omega) (by omega)) ?_; rintro ⟨_, _⟩ ⟨_, _⟩ ⟨⟨a9, L9, b9, h1, h2, h3, h4, h5⟩, h6⟩; dsimp only at h1 h2 h6; subst h1 h2 h6; try dsimp only [KSo.at_, KSo.limit, KSo.failed, KSo.bytes, KSo.mk])
      | (refine OE.bind (oe_So_fail hfg hN (by omega) (by omega) (by omega)) ?_; rintro _ _ ⟨a9, L9, b9, h1, h2, h3, h4, h5⟩; subst h1 h2; try dsimp only [KSo.at_, KSo.limit, KSo.failed, KSo.bytes, KSo.mk])
      | (refine OE.bind (oe_So_hasFailed hfg hN (by omega) (by omega) (by omega)) ?_; rintro _ _ h1; subst h1; try dsimp only [KSo.at_, KSo.limit, KSo.failed, KSo.bytes, KSo.mk])
      | (refine OE.bind (oe_So_hasMore hfg hN (by omega) (by omega) (by omega)) ?_; rintro _ _ h1; subst h1; try dsimp only [KSo.at_, KSo.limit, KSo.failed, KSo.bytes, KSo.mk])
      | (refine OE.bind (oe_So_require hfg hN (by omega) (by omega) (by omega) _) ?_; rintro _ _ ⟨a9, L9, b9, h1, h2, h3, h4, h5⟩; subst h1 h2; try dsimp only [KSo.at_, KSo.limit, KSo.failed, KSo.bytes, KSo.mk])
      | (refine OE.bind (oe_So_flag hfg hN (by omega) (by omega) (by omega)) ?_; rintro ⟨_, _⟩ ⟨_, _⟩ ⟨⟨a9, L9, b9, h1, h2, h3, h4, h5⟩, h6⟩; dsimp only at h1 h2 h6; subst h1 h2 h6; try dsimp only [KSo.at_, KSo.limit, KSo.failed, KSo.bytes, KSo.mk])
      | (refine OE.bind (oe_So_valueType hfg hN (by omega) (by omega) (by omega)) ?_; rintro ⟨_, _⟩ ⟨_, _⟩ ⟨⟨a9, L9, b9, h1, h2, h3, h4, h5⟩, h6⟩; dsimp only at h1 h2 h6; subst h1 h2 h6; try dsimp only [KSo.at_, KSo.limit, KSo.failed, KSo.bytes, KSo.mk])
      | (refine OE.bind (oe_So_left hfg hN (by omega) (by omega) (by omega)) ?_; rintro _ _ h1; subst h1; try dsimp only [KSo.at_, KSo.limit, KSo.failed, KSo.bytes, KSo.mk])
      | (refine OE.bind (oe_So_skipRest hfg hN (by omega) (by omega) (by omega)) ?_; rintro _ _ ⟨a9, L9, b9, h1, h2, h3, h4, h5⟩; subst h1 h2; try dsimp only [KSo.at_, KSo.limit, KSo.failed, KSo.bytes, KSo.mk])
      | (refine OE.bind (oe_So_widen (by omega) (by omega) (by omega)) ?_; rintro _ _ ⟨a9, L9, b9, h1, h2, h3, h4, h5⟩; subst h1 h2; try dsimp only [KSo.at_, KSo.limit, KSo.failed, KSo.bytes, KSo.mk])
      | (refine OE.bind (oe_uns hfg hN (by omega) (by omega) (by omega) _) ?_; rintro ⟨_, _⟩ ⟨_, _⟩ ⟨⟨a9, L9, b9, h1, h2, h3, h4, h5⟩, h6⟩; dsimp only at h1 h2 h6; subst h1 h2 h6; try dsimp only [KSo.at_, KSo.limit, KSo.failed, KSo.bytes, KSo.mk])
      | (refine OE.bind (oe_nar hfg hN (by omega) (by omega) (by omega)) ?_; rintro ⟨_, _⟩ ⟨_, _⟩ ⟨⟨a9, L9, b9, h1, h2, h3, h4, h5⟩, h6, h7, h8⟩; dsimp only at h1 h2 h6 h7 h8; subst h1 h2 h6; try dsimp only [KSo.at_, KSo.limit, KSo.failed, KSo.bytes, KSo.mk])
      | (refine OE.bind (oeL5_So_signed hfg hN _ _ _ _ _ _ _ (by omega) (by omega) (by omega)) ?_; rintro ⟨_, _⟩ ⟨_, _⟩ ⟨⟨a9, L9, b9, h1, h2, h3, h4, h5⟩, h6⟩; dsimp only at h1 h2 h6; subst h1 h2 h6; try dsimp only [KSo.at_, KSo.limit, KSo.failed, KSo.bytes, KSo.mk])
      | (refine OE.bind (oe_So_signed hfg hN (by omega) (by omega) (by omega) _) ?_; rintro ⟨_, _⟩ ⟨_, _⟩ ⟨⟨a9, L9, b9, h1, h2, h3, h4, h5⟩, h6⟩; dsimp only at h1 h2 h6; subst h1 h2 h6; try dsimp only [KSo.at_, KSo.limit, KSo.failed, KSo.bytes, KSo.mk])
      | (refine OE.bind (oe_BR_openBlock hfg hN (by omega) (by omega) (by omega) _ _ _) ?_; rintro ⟨_, _⟩ ⟨_, _⟩ ⟨⟨a9, L9, b9, h1, h2, h3, h4, h5⟩, h6⟩; dsimp only at h1 h2 h6; subst h1 h2 h6; try dsimp only [KSo.at_, KSo.limit, KSo.failed, KSo.bytes, KSo.mk])
      | (refine OE.bind (oe_BR_turnToElse hfg hN (by omega) (by omega) (by omega) _ _ _) ?_; rintro ⟨_, _⟩ ⟨_, _⟩ ⟨⟨a9, L9, b9, h1, h2, h3, h4, h5⟩, h6⟩; dsimp only at h1 h2 h6; subst h1 h2 h6; try dsimp only [KSo.at_, KSo.limit, KSo.failed, KSo.bytes, KSo.mk])
      | (refine OE.bind (oeL41_BR_readTable hfg hN _ _ _ _ _ _ _ _ _ _ _ (by omega) (by omega) (by omega)) ?_; rintro ⟨_, _⟩ ⟨_, _⟩ ⟨⟨a9, L9, b9, h1, h2, h3, h4, h5⟩, h6⟩; dsimp only at h1 h2 h6; subst h1 h2 h6; try dsimp only [KSo.at_, KSo.limit, KSo.failed, KSo.bytes, KSo.mk])
      | (refine OE.bind (oe_BR_readTable hfg hN (by omega) (by omega) (by omega) _ _ _) ?_; rintro ⟨_, _⟩ ⟨_, _⟩ ⟨⟨a9, L9, b9, h1, h2, h3, h4, h5⟩, h6⟩; dsimp only at h1 h2 h6; subst h1 h2 h6; try dsimp only [KSo.at_, KSo.limit, KSo.failed, KSo.bytes, KSo.mk])
      | (refine OE.bind (oe_BR_readImmediate hfg hN (by omega) (by omega) (by omega) _ _ _) ?_; rintro ⟨_, _⟩ ⟨_, _⟩ ⟨⟨a9, L9, b9, h1, h2, h3, h4, h5⟩, h6⟩; dsimp only at h1 h2 h6; subst h1 h2 h6; try dsimp only [KSo.at_, KSo.limit, KSo.failed, KSo.bytes, KSo.mk])
      | (refine OE.bind (oe_BR_readInstruction hfg hN (by omega) (by omega) (by omega) _ _ _) ?_; rintro ⟨_, _⟩ ⟨_, _⟩ ⟨⟨a9, L9, b9, h1, h2, h3, h4, h5⟩, h6⟩; dsimp only at h1 h2 h6; subst h1 h2 h6; try dsimp only [KSo.at_, KSo.limit, KSo.failed, KSo.bytes, KSo.mk])
      | (refine OE.bind (oeL52_BR_readLocals hfg hN _ _ _ _ _ _ _ _ _ _ _ _ _) ?_; rintro _ _ h1; subst h1; try dsimp only [KSo.at_, KSo.limit, KSo.failed, KSo.bytes, KSo.mk])
      | (refine OE.bind (oeL18_BR_readLocals hfg hN _ _ _ _ _ _ _ _ _ _ _ _ (by omega) (by omega) (by omega)) ?_; rintro ⟨_, _⟩ ⟨_, _⟩ ⟨⟨a9, L9, b9, h1, h2, h3, h4, h5⟩, h6⟩; dsimp only at h1 h2 h6; subst h1 h2 h6; try dsimp only [KSo.at_, KSo.limit, KSo.failed, KSo.bytes, KSo.mk])
      | (refine OE.bind (oe_BR_readLocals hfg hN (by omega) (by omega) (by omega) _ _) ?_; rintro ⟨_, _⟩ ⟨_, _⟩ ⟨⟨a9, L9, b9, h1, h2, h3, h4, h5⟩, h6⟩; dsimp only at h1 h2 h6; subst h1 h2 h6; try dsimp only [KSo.at_, KSo.limit, KSo.failed, KSo.bytes, KSo.mk])
      | (refine OE.bind (oeL73_BR_readAll hfg hN _ _ _ _ _ _ _ _ _ (by omega) (by omega) (by omega)) ?_; rintro ⟨_, _⟩ ⟨_, _⟩ ⟨⟨a9, L9, b9, h1, h2, h3, h4, h5⟩, h6⟩; dsimp only at h1 h2 h6; subst h1 h2 h6; try dsimp only [KSo.at_, KSo.limit, KSo.failed, KSo.bytes, KSo.mk])
      | (refine OE.bind (oeL16_BR_readAll hfg hN _ _ _ _ _ _ _ _ _ _ (by omega) (by omega) (by omega)) ?_; rintro ⟨_, _⟩ ⟨_, _⟩ ⟨⟨a9, L9, b9, h1, h2, h3, h4, h5⟩, h6⟩; dsimp only at h1 h2 h6; subst h1 h2 h6; try dsimp only [KSo.at_, KSo.limit, KSo.failed, KSo.bytes, KSo.mk])
      | (refine OE.bind (oe_BR_readAll hfg hN (by omega) (by omega) (by omega) _ _ _ _ _) ?_; rintro ⟨_, _⟩ ⟨_, _⟩ ⟨⟨a9, L9, b9, h1, h2, h3, h4, h5⟩, h6⟩; dsimp only at h1 h2 h6; subst h1 h2 h6; try dsimp only [KSo.at_, KSo.limit, KSo.failed, KSo.bytes, KSo.mk])
      | (refine OE.bind (oe_Rd_readCustom hfg hN (by omega) (by omega) (by omega)) ?_; rintro _ _ ⟨a9, L9, b9, h1, h2, h3, h4, h5⟩; subst h1 h2; try dsimp only [KSo.at_, KSo.limit, KSo.failed, KSo.bytes, KSo.mk])
      | (refine OE.bind (oeL62_Rd_readTypes hfg hN _ _ _ _ _ _ _ (by omega) (by omega) (by omega)) ?_; rintro ⟨_, _⟩ ⟨_, _⟩ ⟨⟨a9, L9, b9, h1, h2, h3, h4, h5⟩, h6⟩; dsimp only at h1 h2 h6; subst h1 h2 h6; try dsimp only [KSo.at_, KSo.limit, KSo.failed, KSo.bytes, KSo.mk])
      | (refine OE.bind (oeL20_Rd_readTypes hfg hN _ _ _ _ _ _ (by omega) (by omega) (by omega)) ?_; rintro ⟨_, _⟩ ⟨_, _⟩ ⟨⟨a9, L9, b9, h1, h2, h3, h4, h5⟩, h6⟩; dsimp only at h1 h2 h6; subst h1 h2 h6; try dsimp only [KSo.at_, KSo.limit, KSo.failed, KSo.bytes, KSo.mk])
      | (refine OE.bind (oe_Rd_readTypes hfg hN (by omega) (by omega) (by omega) _) ?_; rintro ⟨_, _⟩ ⟨_, _⟩ ⟨⟨a9, L9, b9, h1, h2, h3, h4, h5⟩, h6⟩; dsimp only at h1 h2 h6; subst h1 h2 h6; try dsimp only [KSo.at_, KSo.limit, KSo.failed, KSo.bytes, KSo.mk])
      | (refine OE.same (fun _ => ?_)))
set_option maxRecDepth 20000 in
theorem oe_Rd_readFunctions (hfg : ∀ k : Nat, (k : Int) < N → f k = g k) (hN : N ≤ 2000) {a L : Int} {b : Bool} (h0 : 0 ≤ a) (h1 : 0 ≤ L) (h2 : L ≤ N) (zW3 : KW3) : OE (Rp N f g) (f_Rd_readFunctions fu (KSo.mk a L b f) zW3) (f_Rd_readFunctions fu (KSo.mk a L b g) zW3) := by
  unfold f_Rd_readFunctions
  simp only [jp, KSo.at_, KSo.limit, KSo.failed, KSo.bytes, KSo.mk]
  repeat' (first
    | (refine OE.ite (fun _ => ?_) (fun _ => ?_))
    | exact OE.bad
    | exact OE.ret ⟨(sq_mk (by omega) (by omega) (by omega)), rfl⟩
    | exact OE.ret (sq_mk (by omega) (by omega) (by omega))
    | exact OE.ret rfl
    | (refine OE.bind (oe_So_octet hfg hN (by omega) (by omega) (by omega)) ?_; rintro ⟨_, _⟩ ⟨_, _⟩ ⟨⟨a9, L9, b9, h1, h2, h3, h4, h5⟩, h6⟩; dsimp only at h1 h2 h6; subst h1 h2 h6; try dsimp only [KSo.at_, KSo.limit, KSo.failed, KSo.bytes, KSo.mk])
    | (refine OE.bind (oe_So_fail hfg hN (by omega) (by omega) (by omega)) ?_; rintro _ _ ⟨a9, L9, b9, h1, h2, h3, h4, h5⟩; subst h1 h2; try dsimp only [KSo.at_, KSo.limit, KSo.failed, KSo.bytes, KSo.mk])
    | (refine OE.bind (oe_So_hasFailed hfg hN (by omega) (by omega) (by omega)) ?_; rintro _ _ h1; subst h1; try dsimp only [KSo.at_, KSo.limit, KSo.failed, KSo.bytes, KSo.mk])
    | (refine OE.bind (oe_So_hasMore hfg hN (by omega) (by omega) (by omega)) ?_; rintro _ _ h1; subst h1; try dsimp only [KSo.at_, KSo.limit, KSo.failed, KSo.bytes, KSo.mk])
    | (refine OE.bind (oe_So_require hfg hN (by omega) (by omega) (by omega) _) ?_; rintro _ _ ⟨a9, L9, b9, h1, h2, h3, h4, h5⟩; subst h1 h2; try dsimp only [KSo.at_, KSo.limit, KSo.failed, KSo.bytes, KSo.mk])
    | (refine OE.bind (oe_So_flag hfg hN (by omega) (by omega) (by omega)) ?_; rintro ⟨_, _⟩ ⟨_, _⟩ ⟨⟨a9, L9, b9, h1, h2, h3, h4, h5⟩, h6⟩; dsimp only at h1 h2 h6; subst h1 h2 h6; try dsimp only [KSo.at_, KSo.limit, KSo.failed, KSo.bytes, KSo.mk])
    | (refine OE.bind (oe_So_valueType hfg hN (by omega) (by omega) (by omega)) ?_; rintro ⟨_, _⟩ ⟨_, _⟩ ⟨⟨a9, L9, b9, h1, h2, h3, h4, h5⟩, h6⟩; dsimp only at h1 h2 h6; subst h1 h2 h6; try dsimp only [KSo.at_, KSo.limit, KSo.failed, KSo.bytes, KSo.mk])
    | (refine OE.bind (oe_So_left hfg hN (by omega) (by omega) (by omega)) ?_; rintro _ _ h1; subst h1; try dsimp only [KSo.at_, KSo.limit, KSo.failed, KSo.bytes, KSo.mk])
    | (refine OE.bind (oe_So_skipRest hfg hN (by omega) (by omega) (by omega)) ?_; rintro _ _ ⟨a9, L9, b9, h1, h2, h3, h4, h5⟩; subst h1 h2; try dsimp only [KSo.at_, KSo.limit, KSo.failed, KSo.bytes, KSo.mk])
    | (refine OE.bind (oe_So_widen (by omega) (by omega) (by omega)) ?_; rintro _ _ ⟨a9, L9, b9, h1, h2, h3, h4, h5⟩; subst h1 h2; try dsimp only [KSo.at_, KSo.limit, KSo.failed, KSo.bytes, KSo.mk])
    | (refine OE.bind (oe_uns hfg hN (by omega) (by omega) (by omega) _) ?_; rintro ⟨_, _⟩ ⟨_, _⟩ ⟨⟨a9, L9, b9, h1, h2, h3, h4, h5⟩, h6⟩; dsimp only at h1 h2 h6; subst h1 h2 h6; try dsimp only [KSo.at_, KSo.limit, KSo.failed, KSo.bytes, KSo.mk])
    | (refine OE.bind (oe_nar hfg hN (by omega) (by omega) (by omega)) ?_; rintro ⟨_, _⟩ ⟨_, _⟩ ⟨⟨a9, L9, b9, h1, h2, h3, h4, h5⟩, h6, h7, h8⟩; dsimp only at h1 h2 h6 h7 h8; subst h1 h2 h6; try dsimp only [KSo.at_, KSo.limit, KSo.failed, KSo.bytes, KSo.mk])
    | (refine OE.bind (oeL5_So_signed hfg hN _ _ _ _ _ _ _ (by omega) (by omega) (by omega)) ?_; rintro ⟨_, _⟩ ⟨_, _⟩ ⟨⟨a9, L9, b9, h1, h2, h3, h4, h5⟩, h6⟩; dsimp only at h1 h2 h6; subst h1 h2 h6; try dsimp only [KSo.at_, KSo.limit, KSo.failed, KSo.bytes, KSo.mk])
    | (refine OE.bind (oe_So_signed hfg hN (by omega) (by omega) (by omega) _) ?_; rintro ⟨_, _⟩ ⟨_, _⟩ ⟨⟨a9, L9, b9, h1, h2, h3, h4, h5⟩, h6⟩; dsimp only at h1 h2 h6; subst h1 h2 h6; try dsimp only [KSo.at_, KSo.limit, KSo.failed, KSo.bytes, KSo.mk])
    | (refine OE.bind (oe_BR_openBlock hfg hN (by omega) (by omega) (by omega) _ _ _) ?_; rintro ⟨_, _⟩ ⟨_, _⟩ ⟨⟨a9, L9, b9, h1, h2, h3, h4, h5⟩, h6⟩; dsimp only at h1 h2 h6; subst h1 h2 h6; try dsimp only [KSo.at_, KSo.limit, KSo.failed, KSo.bytes, KSo.mk])
    | (refine OE.bind (oe_BR_turnToElse hfg hN (by omega) (by omega) (by omega) _ _ _) ?_; rintro ⟨_, _⟩ ⟨_, _⟩ ⟨⟨a9, L9, b9, h1, h2, h3, h4, h5⟩, h6⟩; dsimp only at h1 h2 h6; subst h1 h2 h6; try dsimp only [KSo.at_, KSo.limit, KSo.failed, KSo.bytes, KSo.mk])
    | (refine OE.bind (oeL41_BR_readTable hfg hN _ _ _ _ _ _ _ _ _ _ _ (by omega) (by omega) (by omega)) ?_; rintro ⟨_, _⟩ ⟨_, _⟩ ⟨⟨a9, L9, b9, h1, h2, h3, h4, h5⟩, h6⟩; dsimp only at h1 h2 h6; subst h1 h2 h6; try dsimp only [KSo.at_, KSo.limit, KSo.failed, KSo.bytes, KSo.mk])
    | (refine OE.bind (oe_BR_readTable hfg hN (by omega) (by omega) (by omega) _ _ _) ?_; rintro ⟨_, _⟩ ⟨_, _⟩ ⟨⟨a9, L9, b9, h1, h2, h3, h4, h5⟩, h6⟩; dsimp only at h1 h2 h6; subst h1 h2 h6; try dsimp only [KSo.at_, KSo.limit, KSo.failed, KSo.bytes, KSo.mk])
    | (refine OE.bind (oe_BR_readImmediate hfg hN (by omega) (by omega) (by omega) _ _ _) ?_; rintro ⟨_, _⟩ ⟨_, _⟩ ⟨⟨a9, L9, b9, h1, h2, h3, h4, h5⟩, h6⟩; dsimp only at h1 h2 h6; subst h1 h2 h6; try dsimp only [KSo.at_, KSo.limit, KSo.failed, KSo.bytes, KSo.mk])
    | (refine OE.bind (oe_BR_readInstruction hfg hN (by omega) (by omega) (by omega) _ _ _) ?_; rintro ⟨_, _⟩ ⟨_, _⟩ ⟨⟨a9, L9, b9, h1, h2, h3, h4, h5⟩, h6⟩; dsimp only at h1 h2 h6; subst h1 h2 h6; try dsimp only [KSo.at_, KSo.limit, KSo.failed, KSo.bytes, KSo.mk])
    | (refine OE.bind (oeL52_BR_readLocals hfg hN _ _ _ _ _ _ _ _ _ _ _ _ _) ?_; rintro _ _ h1; subst h1; try dsimp only [KSo.at_, KSo.limit, KSo.failed, KSo.bytes, KSo.mk])
    | (refine OE.bind (oeL18_BR_readLocals hfg hN _ _ _ _ _ _ _ _ _ _ _ _ (by omega) (by omega) (by omega)) ?_; rintro ⟨_, _⟩ ⟨_, _⟩ ⟨⟨a9, L9, b9, h1, h2, h3, h4, h5⟩, h6⟩; dsimp only at h1 h2 h6; subst h1 h2 h6; try dsimp only [KSo.at_, KSo.limit, KSo.failed, KSo.bytes, KSo.mk])
    | (refine OE.bind (oe_BR_readLocals hfg hN (by omega) (by omega) (by omega) _ _) ?_; rintro ⟨_, _⟩ ⟨_, _⟩ ⟨⟨a9, L9, b9, h1, h2, h3, h4, h5⟩, h6⟩; dsimp only at h1 h2 h6; subst h1 h2 h6; try dsimp only [KSo.at_, KSo.limit, KSo.failed, KSo.bytes, KSo.mk])
    | (refine OE.bind (oeL73_BR_readAll hfg hN _ _ _ _ _ _ _ _ _ (by omega) (by omega) (by omega)) ?_; rintro ⟨_, _⟩ ⟨_, _⟩ ⟨⟨a9, L9, b9, h1, h2, h3, h4, h5⟩, h6⟩; dsimp only at h1 h2 h6; subst h1 h2 h6; try dsimp only [KSo.at_, KSo.limit, KSo.failed, KSo.bytes, KSo.mk])
    | (refine OE.bind (oeL16_BR_readAll hfg hN _ _ _ _ _ _ _ _ _ _ (by omega) (by omega) (by omega)) ?_; rintro ⟨_, _⟩ ⟨_, _⟩ ⟨⟨a9, L9, b9, h1, h2, h3, h4, h5⟩, h6⟩; dsimp only at h1 h2 h6; subst h1 h2 h6; try dsimp only [KSo.at_, KSo.limit, KSo.failed, KSo.bytes, KSo.mk])
    | (refine OE.bind (oe_BR_readAll hfg hN (by omega) (by omega) (by omega) _ _ _ _ _) ?_; rintro ⟨_, _⟩ ⟨_, _⟩ ⟨⟨a9, L9, b9, h1, h2, h3, h4, h5⟩, h6⟩; dsimp only at h1 h2 h6; subst h1 h2 h6; try dsimp only [KSo.at_, KSo.limit, KSo.failed, KSo.bytes, KSo.mk])
    | (refine OE.bind (oe_Rd_readCustom hfg hN (by omega) (by omega) (by omega)) ?_; rintro _ _ ⟨a9, L9, b9, h1, h2, h3, h4, h5⟩; subst h1 h2; try dsimp only [KSo.at_, KSo.limit, KSo.failed, KSo.bytes, KSo.mk])
    | (refine OE.bind (oeL62_Rd_readTypes hfg hN _ _ _ _ _ _ _ (by omega) (by omega) (by omega)) ?_; rintro ⟨_, _⟩ ⟨_, _⟩ ⟨⟨a9, L9, b9, h1, h2, h3, h4, h5⟩, h6⟩; dsimp only at h1 h2 h6; subst h1 h2 h6; try dsimp only [KSo.at_, KSo.limit, KSo.failed, KSo.bytes, KSo.mk])
    | (refine OE.bind (oeL20_Rd_readTypes hfg hN _ _ _ _ _ _ (by omega) (by omega) (by omega)) ?_; rintro ⟨_, _⟩ ⟨_, _⟩ ⟨⟨a9, L9, b9, h1, h2, h3, h4, h5⟩, h6⟩; dsimp only at h1 h2 h6; subst h1 h2 h6; try dsimp only [KSo.at_, KSo.limit, KSo.failed, KSo.bytes, KSo.mk])
    | (refine OE.bind (oe_Rd_readTypes hfg hN (by omega) (by omega) (by omega) _) ?_; rintro ⟨_, _⟩ ⟨_, _⟩ ⟨⟨a9, L9, b9, h1, h2, h3, h4, h5⟩, h6⟩; dsimp only at h1 h2 h6; subst h1 h2 h6; try dsimp only [KSo.at_, KSo.limit, KSo.failed, KSo.bytes, KSo.mk])
    | (refine OE.bind (oeL20_Rd_readFunctions hfg hN _ _ _ _ _ _ (by omega) (by omega) (by omega)) ?_; rintro ⟨_, _⟩ ⟨_, _⟩ ⟨⟨a9, L9, b9, h1, h2, h3, h4, h5⟩, h6⟩; dsimp only at h1 h2 h6; subst h1 h2 h6; try dsimp only [KSo.at_, KSo.limit, KSo.failed, KSo.bytes, KSo.mk])
    | (refine OE.same (fun _ => ?_)))
set_option maxRecDepth 20000 in
theorem oe_Rd_readMemories (hfg : ∀ k : Nat, (k : Int) < N → f k = g k) (hN : N ≤ 2000) {a L : Int} {b : Bool} (h0 : 0 ≤ a) (h1 : 0 ≤ L) (h2 : L ≤ N) (zW5 : KW5) : OE (Rp N f g) (f_Rd_readMemories fu (KSo.mk a L b f) zW5) (f_Rd_readMemories fu (KSo.mk a L b g) zW5) := by
  unfold f_Rd_readMemories
  simp only [jp, KSo.at_, KSo.limit, KSo.failed, KSo.bytes, KSo.mk]
  repeat' (first
    | (refine OE.ite (fun _ => ?_) (fun _ => ?_))
    | exact OE.bad
    | exact OE.ret ⟨(sq_mk (by omega) (by omega) (by omega)), rfl⟩
    | exact OE.ret (sq_mk (by omega) (by omega) (by omega))
    | exact OE.ret rfl
    | (refine OE.bind (oe_So_octet hfg hN (by omega) (by omega) (by omega)) ?_; rintro ⟨_, _⟩ ⟨_, _⟩ ⟨⟨a9, L9, b9, h1, h2, h3, h4, h5⟩, h6⟩; dsimp only at h1 h2 h6; subst h1 h2 h6; try dsimp only [KSo.at_, KSo.limit, KSo.failed, KSo.bytes, KSo.mk])
    | (refine OE.bind (oe_So_fail hfg hN (by omega) (by omega) (by omega)) ?_; rintro _ _ ⟨a9, L9, b9, h1, h2, h3, h4, h5⟩; subst h1 h2; try dsimp only [KSo.at_, KSo.limit, KSo.failed, KSo.bytes, KSo.mk])
    | (refine OE.bind (oe_So_hasFailed hfg hN (by omega) (by omega) (by omega)) ?_; rintro _ _ h1; subst h1; try dsimp only [KSo.at_, KSo.limit, KSo.failed, KSo.bytes, KSo.mk])
    | (refine OE.bind (oe_So_hasMore hfg hN (by omega) (by omega) (by omega)) ?_; rintro _ _ h1; subst h1; try dsimp only [KSo.at_, KSo.limit, KSo.failed, KSo.bytes, KSo.mk])
    | (refine OE.bind (oe_So_require hfg hN (by omega) (by omega) (by omega) _) ?_; rintro _ _ ⟨a9, L9, b9, h1, h2, h3, h4, h5⟩; subst h1 h2; try dsimp only [KSo.at_, KSo.limit, KSo.failed, KSo.bytes, KSo.mk])
    | (refine OE.bind (oe_So_flag hfg hN (by omega) (by omega) (by omega)) ?_; rintro ⟨_, _⟩ ⟨_, _⟩ ⟨⟨a9, L9, b9, h1, h2, h3, h4, h5⟩, h6⟩; dsimp only at h1 h2 h6; subst h1 h2 h6; try dsimp only [KSo.at_, KSo.limit, KSo.failed, KSo.bytes, KSo.mk])
    | (refine OE.bind (oe_So_valueType hfg hN (by omega) (by omega) (by omega)) ?_; rintro ⟨_, _⟩ ⟨_, _⟩ ⟨⟨a9, L9, b9, h1, h2, h3, h4, h5⟩, h6⟩; dsimp only at h1 h2 h6; subst h1 h2 h6; try dsimp only [KSo.at_, KSo.limit, KSo.failed, KSo.bytes, KSo.mk])
    | (refine OE.bind (oe_So_left hfg hN (by omega) (by omega) (by omega)) ?_; rintro _ _ h1; subst h1; try dsimp only [KSo.at_, KSo.limit, KSo.failed, KSo.bytes, KSo.mk])
    | (refine OE.bind (oe_So_skipRest hfg hN (by omega) (by omega) (by omega)) ?_; rintro _ _ ⟨a9, L9, b9, h1, h2, h3, h4, h5⟩; subst h1 h2; try dsimp only [KSo.at_, KSo.limit, KSo.failed, KSo.bytes, KSo.mk])
    | (refine OE.bind (oe_So_widen (by omega) (by omega) (by omega)) ?_; rintro _ _ ⟨a9, L9, b9, h1, h2, h3, h4, h5⟩; subst h1 h2; try dsimp only [KSo.at_, KSo.limit, KSo.failed, KSo.bytes, KSo.mk])
    | (refine OE.bind (oe_uns hfg hN (by omega) (by omega) (by omega) _) ?_; rintro ⟨_, _⟩ ⟨_, _⟩ ⟨⟨a9, L9, b9, h1, h2, h3, h4, h5⟩, h6⟩; dsimp only at h1 h2 h6; subst h1 h2 h6; try dsimp only [KSo.at_, KSo.limit, KSo.failed, KSo.bytes, KSo.mk])
    | (refine OE.bind (oe_nar hfg hN (by omega) (by omega) (by omega)) ?_; rintro ⟨_, _⟩ ⟨_, _⟩ ⟨⟨a9, L9, b9, h1, h2, h3, h4, h5⟩, h6, h7, h8⟩; dsimp only at h1 h2 h6 h7 h8; subst h1 h2 h6; try dsimp only [KSo.at_, KSo.limit, KSo.failed, KSo.bytes, KSo.mk])
    | (refine OE.bind (oeL5_So_signed hfg hN _ _ _ _ _ _ _ (by omega) (by omega) (by omega)) ?_; rintro ⟨_, _⟩ ⟨_, _⟩ ⟨⟨a9, L9, b9, h1, h2, h3, h4, h5⟩, h6⟩; dsimp only at h1 h2 h6; subst h1 h2 h6; try dsimp only [KSo.at_, KSo.limit, KSo.failed, KSo.bytes, KSo.mk])
    | (refine OE.bind (oe_So_signed hfg hN (by omega) (by omega) (by omega) _) ?_; rintro ⟨_, _⟩ ⟨_, _⟩ ⟨⟨a9, L9, b9, h1, h2, h3, h4, h5⟩, h6⟩; dsimp only at h1 h2 h6; subst h1 h2 h6; try dsimp only [KSo.at_, KSo.limit, KSo.failed, KSo.bytes, KSo.mk])
    | (refine OE.bind (oe_BR_openBlock hfg hN (by omega) (by omega) (by omega) _ _ _) ?_; rintro ⟨_, _⟩ ⟨_, _⟩ ⟨⟨a9, L9, b9, h1, h2, h3, h4, h5⟩, h6⟩; dsimp only at h1 h2 h6; subst h1 h2 h6; try dsimp only [KSo.at_, KSo.limit, KSo.failed, KSo.bytes, KSo.mk])
    | (refine OE.bind (oe_BR_turnToElse hfg hN (by omega) (by omega) (by omega) _ _ _) ?_; rintro ⟨_, _⟩ ⟨_, _⟩ ⟨⟨a9, L9, b9, h1, h2, h3, h4, h5⟩, h6⟩; dsimp only at h1 h2 h6; subst h1 h2 h6; try dsimp only [KSo.at_, KSo.limit, KSo.failed, KSo.bytes, KSo.mk])
    | (refine OE.bind (oeL41_BR_readTable hfg hN _ _ _ _ _ _ _ _ _ _ _ (by omega) (by omega) (by omega)) ?_; rintro ⟨_, _⟩ ⟨_, _⟩ ⟨⟨a9, L9, b9, h1, h2, h3, h4, h5⟩, h6⟩; dsimp only at h1 h2 h6; subst h1 h2 h6; try dsimp only [KSo.at_, KSo.limit, KSo.failed, KSo.bytes, KSo.mk])
    | (refine OE.bind (oe_BR_readTable hfg hN (by omega) (by omega) (by omega) _ _ _) ?_; rintro ⟨_, _⟩ ⟨_, _⟩ ⟨⟨a9, L9, b9, h1, h2, h3, h4, h5⟩, h6⟩; dsimp only at h1 h2 h6; subst h1 h2 h6; try dsimp only [KSo.at_, KSo.limit, KSo.failed, KSo.bytes, KSo.mk])
    | (refine OE.bind (oe_BR_readImmediate hfg hN (by omega) (by omega) (by omega) _ _ _) ?_; rintro ⟨_, _⟩ ⟨_, _⟩ ⟨⟨a9, L9, b9, h1, h2, h3, h4, h5⟩, h6⟩; dsimp only at h1 h2 h6; subst h1 h2 h6; try dsimp only [KSo.at_, KSo.limit, KSo.failed, KSo.bytes, KSo.mk])
    | (refine OE.bind (oe_BR_readInstruction hfg hN (by omega) (by omega) (by omega) _ _ _) ?_; rintro ⟨_, _⟩ ⟨_, _⟩ ⟨⟨a9, L9, b9, h1, h2, h3, h4, h5⟩, h6⟩; dsimp only at h1 h2 h6; subst h1 h2 h6; try dsimp only [KSo.at_, KSo.limit, KSo.failed, KSo.bytes, KSo.mk])
    | (refine OE.bind (oeL52_BR_readLocals hfg hN _ _ _ _ _ _ _ _ _ _ _ _ _) ?_; rintro _ _ h1; subst h1; try dsimp only [KSo.at_, KSo.limit, KSo.failed, KSo.bytes, KSo.mk])
    | (refine OE.bind (oeL18_BR_readLocals hfg hN _ _ _ _ _ _ _ _ _ _ _ _ (by omega) (by omega) (by omega)) ?_; rintro ⟨_, _⟩ ⟨_, _⟩ ⟨⟨a9, L9, b9, h1, h2, h3, h4, h5⟩, h6⟩; dsimp only at h1 h2 h6; subst h1 h2 h6; try dsimp only [KSo.at_, KSo.limit, KSo.failed, KSo.bytes, KSo.mk])
    | (refine OE.bind (oe_BR_readLocals hfg hN (by omega) (by omega) (by omega) _ _) ?_; rintro ⟨_, _⟩ ⟨_, _⟩ ⟨⟨a9, L9, b9, h1, h2, h3, h4, h5⟩, h6⟩; dsimp only at h1 h2 h6; subst h1 h2 h6; try dsimp only [KSo.at_, KSo.limit, KSo.failed, KSo.bytes, KSo.mk])
    | (refine OE.bind (oeL73_BR_readAll hfg hN _ _ _ _ _ _ _ _ _ (by omega) (by omega) (by omega)) ?_; rintro ⟨_, _⟩ ⟨_, _⟩ ⟨⟨a9, L9, b9, h1, h2, h3, h4, h5⟩, h6⟩; dsimp only at h1 h2 h6; subst h1 h2 h6; try dsimp only [KSo.at_, KSo.limit, KSo.failed, KSo.bytes, KSo.mk])
    | (refine OE.bind (oeL16_BR_readAll hfg hN _ _ _ _ _ _ _ _ _ _ (by omega) (by omega) (by omega)) ?_; rintro ⟨_, _⟩ ⟨_, _⟩ ⟨⟨a9, L9, b9, h1, h2, h3, h4, h5⟩, h6⟩; dsimp only at h1 h2 h6; subst h1 h2 h6; try dsimp only [KSo.at_, KSo.limit, KSo.failed, KSo.bytes, KSo.mk])
    | (refine OE.bind (oe_BR_readAll hfg hN (by omega) (by omega) (by omega) _ _ _ _ _) ?_; rintro ⟨_, _⟩ ⟨_, _⟩ ⟨⟨a9, L9, b9, h1, h2, h3, h4, h5⟩, h6⟩; dsimp only at h1 h2 h6; subst h1 h2 h6; try dsimp only [KSo.at_, KSo.limit, KSo.failed, KSo.bytes, KSo.mk])
    | (refine OE.bind (oe_Rd_readCustom hfg hN (by omega) (by omega) (by omega)) ?_; rintro _ _ ⟨a9, L9, b9, h1, h2, h3, h4, h5⟩; subst h1 h2; try dsimp only [KSo.at_, KSo.limit, KSo.failed, KSo.bytes, KSo.mk])
    | (refine OE.bind (oeL62_Rd_readTypes hfg hN _ _ _ _ _ _ _ (by omega) (by omega) (by omega)) ?_; rintro ⟨_, _⟩ ⟨_, _⟩ ⟨⟨a9, L9, b9, h1, h2, h3, h4, h5⟩, h6⟩; dsimp only at h1 h2 h6; subst h1 h2 h6; try dsimp only [KSo.at_, KSo.limit, KSo.failed, KSo.bytes, KSo.mk])
    | (refine OE.bind (oeL20_Rd_readTypes hfg hN _ _ _ _ _ _ (by omega) (by omega) (by omega)) ?_; rintro ⟨_, _⟩ ⟨_, _⟩ ⟨⟨a9, L9, b9, h1, h2, h3, h4, h5⟩, h6⟩; dsimp only at h1 h2 h6; subst h1 h2 h6; try dsimp only [KSo.at_, KSo.limit, KSo.failed, KSo.bytes, KSo.mk])
    | (refine OE.bind (oe_Rd_readTypes hfg hN (by omega) (by omega) (by omega) _) ?_; rintro ⟨_, _⟩ ⟨_, _⟩ ⟨⟨a9, L9, b9, h1, h2, h3, h4, h5⟩, h6⟩; dsimp only at h1 h2 h6; subst h1 h2 h6; try dsimp only [KSo.at_, KSo.limit, KSo.failed, KSo.bytes, KSo.mk])
    | (refine OE.bind (oeL20_Rd_readFunctions hfg hN _ _ _ _ _ _ (by omega) (by omega) (by omega)) ?_; rintro ⟨_, _⟩ ⟨_, _⟩ ⟨⟨a9, L9, b9, h1, h2, h3, h4, h5⟩, h6⟩; dsimp only at h1 h2 h6; subst h1 h2 h6; try dsimp only [KSo.at_, KSo.limit, KSo.failed, KSo.bytes, KSo.mk])
    | (refine OE.bind (oe_Rd_readFunctions hfg hN (by omega) (by omega) (by omega) _) ?_; rintro ⟨_, _⟩ ⟨_, _⟩ ⟨⟨a9, L9, b9, h1, h2, h3, h4, h5⟩, h6⟩; dsimp only at h1 h2 h6; subst h1 h2 h6; try dsimp only [KSo.at_, KSo.limit, KSo.failed, KSo.bytes, KSo.mk])
    | (refine OE.same (fun _ => ?_)))
set_option maxRecDepth 20000 in
theorem oe_Rd_readInitialValue (hfg : ∀ k : Nat, (k : Int) < N → f k = g k) (hN : N ≤ 2000) {a L : Int} {b : Bool} (h0 : 0 ≤ a) (h1 : 0 ≤ L) (h2 : L ≤ N) (zW6 : KW6) (v_g : Int) : OE (Rp N f g) (f_Rd_readInitialValue fu (KSo.mk a L b f) zW6 v_g) (f_Rd_readInitialValue fu (KSo.mk a L b g) zW6 v_g) := by
  unfold f_Rd_readInitialValue
  simp only [jp, KSo.at_, KSo.limit, KSo.failed, KSo.bytes, KSo.mk]
  repeat' (first
    | (refine OE.ite (fun _ => ?_) (fun _ => ?_))
    | exact OE.bad
    | exact OE.ret ⟨(sq_mk (by omega) (by omega) (by omega)), rfl⟩
    | exact OE.ret (sq_mk (by omega) (by omega) (by omega))
    | exact OE.ret rfl
    | (refine OE.bind (oe_So_octet hfg hN (by omega) (by omega) (by omega)) ?_; rintro ⟨_, _⟩ ⟨_, _⟩ ⟨⟨a9, L9, b9, h1, h2, h3, h4, h5⟩, h6⟩; dsimp only at h1 h2 h6; subst h1 h2 h6; try dsimp only [KSo.at_, KSo.limit, KSo.failed, KSo.bytes, KSo.mk])
    | (refine OE.bind (oe_So_fail hfg hN (by omega) (by omega) (by omega)) ?_; rintro _ _ ⟨a9, L9, b9, h1, h2, h3, h4, h5⟩; subst h1 h2; try dsimp only [KSo.at_, KSo.limit, KSo.failed, KSo.bytes, KSo.mk])
    | (refine OE.bind (oe_So_hasFailed hfg hN (by omega) (by omega) (by omega)) ?_; rintro _ _ h1; subst h1; try dsimp only [KSo.at_, KSo.limit, KSo.failed, KSo.bytes, KSo.mk])
    | (refine OE.bind (oe_So_hasMore hfg hN (by omega) (by omega) (by omega)) ?_; rintro _ _ h1; subst h1; try dsimp only [KSo.at_, KSo.limit, KSo.failed, KSo.bytes, KSo.mk])
    | (refine OE.bind (oe_So_require hfg hN (by omega) (by omega) (by omega) _) ?_; rintro _ _ ⟨a9, L9, b9, h1, h2, h3, h4, h5⟩; subst h1 h2; try dsimp only [KSo.at_, KSo.limit, KSo.failed, KSo.bytes, KSo.mk])
    | (refine OE.bind (oe_So_flag hfg hN (by omega) (by omega) (by omega)) ?_; rintro ⟨_, _⟩ ⟨_, _⟩ ⟨⟨a9, L9, b9, h1, h2, h3, h4, h5⟩, h6⟩; dsimp only at h1 h2 h6; subst h1 h2 h6; try dsimp only [KSo.at_, KSo.limit, KSo.failed, KSo.bytes, KSo.mk])
    | (refine OE.bind (oe_So_valueType hfg hN (by omega) (by omega) (by omega)) ?_; rintro ⟨_, _⟩ ⟨_, _⟩ ⟨⟨a9, L9, b9, h1, h2, h3, h4, h5⟩, h6⟩; dsimp only at h1 h2 h6; subst h1 h2 h6; try dsimp only [KSo.at_, KSo.limit, KSo.failed, KSo.bytes, KSo.mk])
    | (refine OE.bind (oe_So_left hfg hN (by omega) (by omega) (by omega)) ?_; rintro _ _ h1; subst h1; try dsimp only [KSo.at_, KSo.limit, KSo.failed, KSo.bytes, KSo.mk])
    | (refine OE.bind (oe_So_skipRest hfg hN (by omega) (by omega) (by omega)) ?_; rintro _ _ ⟨a9, L9, b9, h1, h2, h3, h4, h5⟩; subst h1 h2; try dsimp only [KSo.at_, KSo.limit, KSo.failed, KSo.bytes, KSo.mk])
    | (refine OE.bind (oe_So_widen (by omega) (by omega) (by omega)) ?_; rintro _ _ ⟨a9, L9, b9, h1, h2, h3, h4, h5⟩; subst h1 h2; try dsimp only [KSo.at_, KSo.limit, KSo.failed, KSo.bytes, KSo.mk])
    | (refine OE.bind (oe_uns hfg hN (by omega) (by omega) (by omega) _) ?_; rintro ⟨_, _⟩ ⟨_, _⟩ ⟨⟨a9, L9, b9, h1, h2, h3, h4, h5⟩, h6⟩; dsimp only at h1 h2 h6; subst h1 h2 h6; try dsimp only [KSo.at_, KSo.limit, KSo.failed, KSo.bytes, KSo.mk])
    | (refine OE.bind (oe_nar hfg hN (by omega) (by omega) (by omega)) ?_; rintro ⟨_, _⟩ ⟨_, _⟩ ⟨⟨a9, L9, b9, h1, h2, h3, h4, h5⟩, h6, h7, h8⟩; dsimp only at h1 h2 h6 h7 h8; subst h1 h2 h6; try dsimp only [KSo.at_, KSo.limit, KSo.failed, KSo.bytes, KSo.mk])
    | (refine OE.bind (oeL5_So_signed hfg hN _ _ _ _ _ _ _ (by omega) (by omega) (by omega)) ?_; rintro ⟨_, _⟩ ⟨_, _⟩ ⟨⟨a9, L9, b9, h1, h2, h3, h4, h5⟩, h6⟩; dsimp only at h1 h2 h6; subst h1 h2 h6; try dsimp only [KSo.at_, KSo.limit, KSo.failed, KSo.bytes, KSo.mk])
    | (refine OE.bind (oe_So_signed hfg hN (by omega) (by omega) (by omega) _) ?_; rintro ⟨_, _⟩ ⟨_, _⟩ ⟨⟨a9, L9, b9, h1, h2, h3, h4, h5⟩, h6⟩; dsimp only at h1 h2 h6; subst h1 h2 h6; try dsimp only [KSo.at_, KSo.limit, KSo.failed, KSo.bytes, KSo.mk])
    | (refine OE.bind (oe_BR_openBlock hfg hN (by omega) (by omega) (by omega) _ _ _) ?_; rintro ⟨_, _⟩ ⟨_, _⟩ ⟨⟨a9, L9, b9, h1, h2, h3, h4, h5⟩, h6⟩; dsimp only at h1 h2 h6; subst h1 h2 h6; try dsimp only [KSo.at_, KSo.limit, KSo.failed, KSo.bytes, KSo.mk])
    | (refine OE.bind (oe_BR_turnToElse hfg hN (by omega) (by omega) (by omega) _ _ _) ?_; rintro ⟨_, _⟩ ⟨_, _⟩ ⟨⟨a9, L9, b9, h1, h2, h3, h4, h5⟩, h6⟩; dsimp only at h1 h2 h6; subst h1 h2 h6; try dsimp only [KSo.at_, KSo.limit, KSo.failed, KSo.bytes, KSo.mk])
    | (refine OE.bind (oeL41_BR_readTable hfg hN _ _ _ _ _ _ _ _ _ _ _ (by omega) (by omega) (by omega)) ?_; rintro ⟨_, _⟩ ⟨_, _⟩ ⟨⟨a9, L9, b9, h1, h2, h3, h4, h5⟩, h6⟩; dsimp only at h1 h2 h6; subst h1 h2 h6; try dsimp only [KSo.at_, KSo.limit, KSo.failed, KSo.bytes, KSo.mk])
    | (refine OE.bind (oe_BR_readTable hfg hN (by omega) (by omega) (by omega) _ _ _) ?_; rintro ⟨_, _⟩ ⟨_, _⟩ ⟨⟨a9, L9, b9, h1, h2, h3, h4, h5⟩, h6⟩; dsimp only at h1 h2 h6; subst h1 h2 h6; try dsimp only [KSo.at_, KSo.limit, KSo.failed, KSo.bytes, KSo.mk])
    | (refine OE.bind (oe_BR_readImmediate hfg hN (by omega) (by omega) (by omega) _ _ _) ?_; rintro ⟨_, _⟩ ⟨_, _⟩ ⟨⟨a9, L9, b9, h1, h2, h3, h4, h5⟩, h6⟩; dsimp only at h1 h2 h6; subst h1 h2 h6; try dsimp only [KSo.at_, KSo.limit, KSo.failed, KSo.bytes, KSo.mk])
    | (refine OE.bind (oe_BR_readInstruction hfg hN (by omega) (by omega) (by omega) _ _ _) ?_; rintro ⟨_, _⟩ ⟨_, _⟩ ⟨⟨a9, L9, b9, h1, h2, h3, h4, h5⟩, h6⟩; dsimp only at h1 h2 h6; subst h1 h2 h6; try dsimp only [KSo.at_, KSo.limit, KSo.failed, KSo.bytes, KSo.mk])
    | (refine OE.bind (oeL52_BR_readLocals hfg hN _ _ _ _ _ _ _ _ _ _ _ _ _) ?_; rintro _ _ h1; subst h1; try dsimp only [KSo.at_, KSo.limit, KSo.failed, KSo.bytes, KSo.mk])
    | (refine OE.bind (oeL18_BR_readLocals hfg hN _ _ _ _ _ _ _ _ _ _ _ _ (by omega) (by omega) (by omega)) ?_; rintro ⟨_, _⟩ ⟨_, _⟩ ⟨⟨a9, L9, b9, h1, h2, h3, h4, h5⟩, h6⟩; dsimp only at h1 h2 h6; subst h1 h2 h6; try dsimp only [KSo.at_, KSo.limit, KSo.failed, KSo.bytes, KSo.mk])
    | (refine OE.bind (oe_BR_readLocals hfg hN (by omega) (by omega) (by omega) _ _) ?_; rintro ⟨_, _⟩ ⟨_, _⟩ ⟨⟨a9, L9, b9, h1, h2, h3, h4, h5⟩, h6⟩; dsimp only at h1 h2 h6; subst h1 h2 h6; try dsimp only [KSo.at_, KSo.limit, KSo.failed, KSo.bytes, KSo.mk])
    | (refine OE.bind (oeL73_BR_readAll hfg hN _ _ _ _ _ _ _ _ _ (by omega) (by omega) (by omega)) ?_; rintro ⟨_, _⟩ ⟨_, _⟩ ⟨⟨a9, L9, b9, h1, h2, h3, h4, h5⟩, h6⟩; dsimp only at h1 h2 h6; subst h1 h2 h6; try dsimp only [KSo.at_, KSo.limit, KSo.failed, KSo.bytes, KSo.mk])
    | (refine OE.bind (oeL16_BR_readAll hfg hN _ _ _ _ _ _ _ _ _ _ (by omega) (by omega) (by omega)) ?_; rintro ⟨_, _⟩ ⟨_, _⟩ ⟨⟨a9, L9, b9, h1, h2, h3, h4, h5⟩, h6⟩; dsimp only at h1 h2 h6; subst h1 h2 h6; try dsimp only [KSo.at_, KSo.limit, KSo.failed, KSo.bytes, KSo.mk])
    | (refine OE.bind (oe_BR_readAll hfg hN (by omega) (by omega) (by omega) _ _ _ _ _) ?_; rintro ⟨_, _⟩ ⟨_, _⟩ ⟨⟨a9, L9, b9, h1, h2, h3, h4, h5⟩, h6⟩; dsimp only at h1 h2 h6; subst h1 h2 h6; try dsimp only [KSo.at_, KSo.limit, KSo.failed, KSo.bytes, KSo.mk])
    | (refine OE.bind (oe_Rd_readCustom hfg hN (by omega) (by omega) (by omega)) ?_; rintro _ _ ⟨a9, L9, b9, h1, h2, h3, h4, h5⟩; subst h1 h2; try dsimp only [KSo.at_, KSo.limit, KSo.failed, KSo.bytes, KSo.mk])
    | (refine OE.bind (oeL62_Rd_readTypes hfg hN _ _ _ _ _ _ _ (by omega) (by omega) (by omega)) ?_; rintro ⟨_, _⟩ ⟨_, _⟩ ⟨⟨a9, L9, b9, h1, h2, h3, h4, h5⟩, h6⟩; dsimp only at h1 h2 h6; subst h1 h2 h6; try dsimp only [KSo.at_, KSo.limit, KSo.failed, KSo.bytes, KSo.mk])
    | (refine OE.bind (oeL20_Rd_readTypes hfg hN _ _ _ _ _ _ (by omega) (by omega) (by omega)) ?_; rintro ⟨_, _⟩ ⟨_, _⟩ ⟨⟨a9, L9, b9, h1, h2, h3, h4, h5⟩, h6⟩; dsimp only at h1 h2 h6; subst h1 h2 h6; try dsimp only [KSo.at_, KSo.limit, KSo.failed, KSo.bytes, KSo.mk])
    | (refine OE.bind (oe_Rd_readTypes hfg hN (by omega) (by omega) (by omega) _) ?_; rintro ⟨_, _⟩ ⟨_, _⟩ ⟨⟨a9, L9, b9, h1, h2, h3, h4, h5⟩, h6⟩; dsimp only at h1 h2 h6; subst h1 h2 h6; try dsimp only [KSo.at_, KSo.limit, KSo.failed, KSo.bytes, KSo.mk])
    | (refine OE.bind (oeL20_Rd_readFunctions hfg hN _ _ _ _ _ _ (by omega) (by omega) (by omega)) ?_; rintro ⟨_, _⟩ ⟨_, _⟩ ⟨⟨a9, L9, b9, h1, h2, h3, h4, h5⟩, h6⟩; dsimp only at h1 h2 h6; subst h1 h2 h6; try dsimp only [KSo.at_, KSo.limit, KSo.failed, KSo.bytes, KSo.mk])
    | (refine OE.bind (oe_Rd_readFunctions hfg hN (by omega) (by omega) (by omega) _) ?_; rintro ⟨_, _⟩ ⟨_, _⟩ ⟨⟨a9, L9, b9, h1, h2, h3, h4, h5⟩, h6⟩; dsimp only at h1 h2 h6; subst h1 h2 h6; try dsimp only [KSo.at_, KSo.limit, KSo.failed, KSo.bytes, KSo.mk])
    | (refine OE.bind (oe_Rd_readMemories hfg hN (by omega) (by omega) (by omega) _) ?_; rintro ⟨_, _⟩ ⟨_, _⟩ ⟨⟨a9, L9, b9, h1, h2, h3, h4, h5⟩, h6⟩; dsimp only at h1 h2 h6; subst h1 h2 h6; try dsimp only [KSo.at_, KSo.limit, KSo.failed, KSo.bytes, KSo.mk])
    | (refine OE.same (fun _ => ?_)))
set_option maxRecDepth 20000 in
theorem oeL20_Rd_readGlobals (hfg : ∀ k : Nat, (k : Int) < N → f k = g k) (hN : N ≤ 2000)  : ∀ (n : Nat) (a L : Int) (b : Bool) (w1 : KW6) (w2 : Int), 0 ≤ a → 0 ≤ L → L ≤ N → OE (Rp N f g) (L20_Rd_readGlobals fu  n (KSo.mk a L b f) w1 w2) (L20_Rd_readGlobals fu  n (KSo.mk a L b g) w1 w2) := by
  intro n
  induction n with
  | zero => intro a L b w1 w2 h0 h1 h2; exact OE.bad
  | succ n ih =>
    intro a L b w1 w2 h0 h1 h2
    rw [L20_Rd_readGlobals.eq_2, L20_Rd_readGlobals.eq_2]
    simp only [jp, KSo.at_, KSo.limit, KSo.failed, KSo.bytes, KSo.mk]
    repeat' (first
      | (refine OE.ite (fun _ => ?_) (fun _ => ?_))
      | exact OE.bad
      | exact OE.ret ⟨(sq_mk (by omega) (by omega) (by omega)), rfl⟩
      | exact OE.ret (sq_mk (by omega) (by omega) (by omega))
      | exact OE.ret rfl
      | exact ih _ _ _ _ _ (by omega) (by omega) (by omega)
      | (refine OE.bind (oe_So_octet hfg hN (by omega) (by omega) (by omega)) ?_; rintro ⟨_, _⟩ ⟨_, _⟩ ⟨⟨a9, L9, b9, h1, h2, h3, h4, h5⟩, h6⟩; dsimp only at h1 h2 h6; subst h1 h2 h6; try dsimp only [KSo.at_, KSo.limit, KSo.failed, KSo.bytes, KSo.mk])
      | (refine OE.bind (oe_So_fail hfg hN (by omega) (by omega) (by omega)) ?_; rintro _ _ ⟨a9, L9, b9, h1, h2, h3, h4, h5⟩; subst h1 h2; try dsimp only [KSo.at_, KSo.limit, KSo.failed, KSo.bytes, KSo.mk])
      | (refine OE.bind (oe_So_hasFailed hfg hN (by omega) (by omega) (by omega)) ?_; rintro _ _ h1; subst h1; try dsimp only [KSo.at_, KSo.limit, KSo.failed, KSo.bytes, KSo.mk])
      | (refine OE.bind (oe_So_hasMore hfg hN (by omega) (by omega) (by omega)) ?_; rintro _ _ h1; subst h1; try dsimp only [KSo.at_, KSo.limit, KSo.failed, KSo.bytes, KSo.mk])
      | (refine OE.bind (oe_So_require hfg hN (by omega) (by omega) (by omega) _) ?_; rintro _ _ ⟨a9, L9, b9, h1, h2, h3, h4, h5⟩; subst h1 h2; try dsimp only [KSo.at_, KSo.limit, KSo.failed, KSo.bytes, KSo.mk])
      | (refine OE.bind (oe_So_flag hfg hN (by omega) (by omega) (by omega)) ?_; rintro ⟨_, _⟩ ⟨_, _⟩ ⟨⟨a9, L9, b9, h1, h2, h3, h4, h5⟩, h6⟩; dsimp only at h1 h2 h6; subst h1 h2 h6; try dsimp only [KSo.at_, KSo.limit, KSo.failed, KSo.bytes, KSo.mk])
      | (refine OE.bind (oe_So_valueType hfg hN (by omega) (by omega) (by omega)) ?_; rintro ⟨_, _⟩ ⟨_, _⟩ ⟨⟨a9, L9, b9, h1, h2, h3, h4, h5⟩, h6⟩; dsimp only at h1 h2 h6; subst h1 h2 h6; try dsimp only [KSo.at_, KSo.limit, KSo.failed, KSo.bytes, KSo.mk])
      | (refine OE.bind (oe_So_left hfg hN (by omega) (by omega) (by omega)) ?_; rintro _ _ h1; subst h1; try dsimp only [KSo.at_, KSo.limit, KSo.failed, KSo.bytes, KSo.mk])
      | (refine OE.bind (oe_So_skipRest hfg hN (by omega) (by omega) (by omega)) ?_; rintro _ _ ⟨a9, L9, b9, h1, h2, h3, h4, h5⟩; subst h1 h2; try dsimp only [KSo.at_, KSo.limit, KSo.failed, KSo.bytes, KSo.mk])
      | (refine OE.bind (oe_So_widen (by omega) (by omega) (by omega)) ?_; rintro _ _ ⟨a9, L9, b9, h1, h2, h3, h4, h5⟩; subst h1 h2; try dsimp only [KSo.at_, KSo.limit, KSo.failed, KSo.bytes, KSo.mk])
      | (refine OE.bind (oe_uns hfg hN (by omega) (by omega) (by omega) _) ?_; rintro ⟨_, _⟩ ⟨_, _⟩ ⟨⟨a9, L9, b9, h1, h2, h3, h4, h5⟩, h6⟩; dsimp only at h1 h2 h6; subst h1 h2 h6; try dsimp only [KSo.at_, KSo.limit, KSo.failed, KSo.bytes, KSo.mk])
      | (refine OE.bind (oe_nar hfg hN (by omega) (by omega) (by omega)) ?_; rintro ⟨_, _⟩ ⟨_, _⟩ ⟨⟨a9, L9, b9, h1, h2, h3, h4, h5⟩, h6, h7, h8⟩; dsimp only at h1 h2 h6 h7 h8; subst h1 h2 h6; try dsimp only [KSo.at_, KSo.limit, KSo.failed, KSo.bytes, KSo.mk])
      | (refine OE.bind (oeL5_So_signed hfg hN _ _ _ _ _ _ _ (by omega) (by omega) (by omega)) ?_; rintro ⟨_, _⟩ ⟨_, _⟩ ⟨⟨a9, L9, b9, h1, h2, h3, h4, h5⟩, h6⟩; dsimp only at h1 h2 h6; subst h1 h2 h6; try dsimp only [KSo.at_, KSo.limit, KSo.failed, KSo.bytes, KSo.mk])
      | (refine OE.bind (oe_So_signed hfg hN (by omega) (by omega) (by omega) _) ?_; rintro ⟨_, _⟩ ⟨_, _⟩ ⟨⟨a9, L9, b9, h1, h2, h3, h4, h5⟩, h6⟩; dsimp only at h1 h2 h6; subst h1 h2 h6; try dsimp only [KSo.at_, KSo.limit, KSo.failed, KSo.bytes, KSo.mk])
      | (refine OE.bind (oe_BR_openBlock hfg hN (by omega) (by omega) (by omega) _ _ _) ?_; rintro ⟨_, _⟩ ⟨_, _⟩ ⟨⟨a9, L9, b9, h1, h2, h3, h4, h5⟩, h6⟩; dsimp only at h1 h2 h6; subst h1 h2 h6; try dsimp only [KSo.at_, KSo.limit, KSo.failed, KSo.bytes, KSo.mk])
      | (refine OE.bind (oe_BR_turnToElse hfg hN (by omega) (by omega) (by omega) _ _ _) ?_; rintro ⟨_, _⟩ ⟨_, _⟩ ⟨⟨a9, L9, b9, h1, h2, h3, h4, h5⟩, h6⟩; dsimp only at h1 h2 h6; subst h1 h2 h6; try dsimp only [KSo.at_, KSo.limit, KSo.failed, KSo.bytes, KSo.mk])
      | (refine OE.bind (oeL41_BR_readTable hfg hN _ _ _ _ _ _ _ _ _ _ _ (by omega) (by omega) (by omega)) ?_; rintro ⟨_, _⟩ ⟨_, _⟩ ⟨⟨a9, L9, b9, h1, h2, h3, h4, h5⟩, h6⟩; dsimp only at h1 h2 h6; subst h1 h2 h6; try dsimp only [KSo.at_, KSo.limit, KSo.failed, KSo.bytes, KSo.mk])
      | (refine OE.bind (oe_BR_readTable hfg hN (by omega) (by omega) (by omega) _ _ _) ?_; rintro ⟨_, _⟩ ⟨_, _⟩ ⟨⟨a9, L9, b9, h1, h2, h3, h4, h5⟩, h6⟩; dsimp only at h1 h2 h6; subst h1 h2 h6; try dsimp only [KSo.at_, KSo.limit, KSo.failed, KSo.bytes, KSo.mk])
      | (refine OE.bind (oe_BR_readImmediate hfg hN (by omega) (by omega) (by omega) _ _ _) ?_; rintro ⟨_, _⟩ ⟨_, _⟩ ⟨⟨a9, L9, b9, h1, h2, h3, h4, h5⟩, h6⟩; dsimp only at h1 h2 h6; subst h1 h2 h6; try dsimp only [KSo.at_, KSo.limit, KSo.failed, KSo.bytes, KSo.mk])
      | (refine OE.bind (oe_BR_readInstruction hfg hN (by omega) (by omega) (by omega) _ _ _) ?_; rintro ⟨_, _⟩ ⟨_, _⟩ ⟨⟨a9, L9, b9, h1, h2, h3, h4, h5⟩, h6⟩; dsimp only at h1 h2 h6; subst h1 h2 h6; try dsimp only [KSo.at_, KSo.limit, KSo.failed, KSo.bytes, KSo.mk])
      | (refine OE.bind (oeL52_BR_readLocals hfg hN _ _ _ _ _ _ _ _ _ _ _ _ _) ?_; rintro _ _ h1; subst h1; try dsimp only [KSo.at_, KSo.limit, KSo.failed, KSo.bytes, KSo.mk])
      | (refine OE.bind (oeL18_BR_readLocals hfg hN _ _ _ _ _ _ _ _ _ _ _ _ (by omega) (by omega) (by omega)) ?_; rintro ⟨_, _⟩ ⟨_, _⟩ ⟨⟨a9, L9, b9, h1, h2, h3, h4, h5⟩, h6⟩; dsimp only at h1 h2 h6; subst h1 h2 h6; try dsimp only [KSo.at_, KSo.limit, KSo.failed, KSo.bytes, KSo.mk])
      | (refine OE.bind (oe_BR_readLocals hfg hN (by omega) (by omega) (by omega) _ _) ?_; rintro ⟨_, _⟩ ⟨_, _⟩ ⟨⟨a9, L9, b9, h1, h2, h3, h4, h5⟩, h6⟩; dsimp only at h1 h2 h6; subst h1 h2 h6; try dsimp only [KSo.at_, KSo.limit, KSo.failed, KSo.bytes, KSo.mk])
      | (refine OE.bind (oeL73_BR_readAll hfg hN _ _ _ _ _ _ _ _ _ (by omega) (by omega) (by omega)) ?_; rintro ⟨_, _⟩ ⟨_, _⟩ ⟨⟨a9, L9, b9, h1, h2, h3, h4, h5⟩, h6⟩; dsimp only at h1 h2 h6; subst h1 h2 h6; try dsimp only [KSo.at_, KSo.limit, KSo.failed, KSo.bytes, KSo.mk])
      | (refine OE.bind (oeL16_BR_readAll hfg hN _ _ _ _ _ _ _ _ _ _ (by omega) (by omega) (by omega)) ?_; rintro ⟨_, _⟩ ⟨_, _⟩ ⟨⟨a9, L9, b9, h1, h2, h3, h4, h5⟩, h6⟩; dsimp only at h1 h2 h6; subst h1 h2 h6; try dsimp only [KSo.at_, KSo.limit, KSo.failed, KSo.bytes, KSo.mk])
      | (refine OE.bind (oe_BR_readAll hfg hN (by omega) (by omega) (by omega) _ _ _ _ _) ?_; rintro ⟨_, _⟩ ⟨_, _⟩ ⟨⟨a9, L9, b9, h1, h2, h3, h4, h5⟩, h6⟩; dsimp only at h1 h2 h6; subst h1 h2 h6; try dsimp only [KSo.at_, KSo.limit, KSo.failed, KSo.bytes, KSo.mk])
      | (refine OE.bind (oe_Rd_readCustom hfg hN (by omega) (by omega) (by omega)) ?_; rintro _ _ ⟨a9, L9, b9, h1, h2, h3, h4, h5⟩; subst h1 h2; try dsimp only [KSo.at_, KSo.limit, KSo.failed, KSo.bytes, KSo.mk])
      | (refine OE.bind (oeL62_Rd_readTypes hfg hN _ _ _ _ _ _ _ (by omega) (by omega) (by omega)) ?_; rintro ⟨_, _⟩ ⟨_, _⟩ ⟨⟨a9, L9, b9, h1, h2, h3, h4, h5⟩, h6⟩; dsimp only at h1 h2 h6; subst h1 h2 h6; try dsimp only [KSo.at_, KSo.limit, KSo.failed, KSo.bytes, KSo.mk])
      | (refine OE.bind (oeL20_Rd_readTypes hfg hN _ _ _ _ _ _ (by omega) (by omega) (by omega)) ?_; rintro ⟨_, _⟩ ⟨_, _⟩ ⟨⟨a9, L9, b9, h1, h2, h3, h4, h5⟩, h6⟩; dsimp only at h1 h2 h6; subst h1 h2 h6; try dsimp only [KSo.at_, KSo.limit, KSo.failed, KSo.bytes, KSo.mk])
      | (refine OE.bind (oe_Rd_readTypes hfg hN (by omega) (by omega) (by omega) _) ?_; rintro ⟨_, _⟩ ⟨_, _⟩ ⟨⟨a9, L9, b9, h1, h2, h3, h4, h5⟩, h6⟩; dsimp only at h1 h2 h6; subst h1 h2 h6; try dsimp only [KSo.at_, KSo.limit, KSo.failed, KSo.bytes, KSo.mk])
      | (refine OE.bind (oeL20_Rd_readFunctions hfg hN _ _ _ _ _ _ (by omega) (by omega) (by omega)) ?_; rintro ⟨_, _⟩ ⟨_, _⟩ ⟨⟨a9, L9, b9, h1, h2, h3, h4, h5⟩, h6⟩; dsimp only at h1 h2 h6; subst h1 h2 h6; try dsimp only [KSo.at_, KSo.limit, KSo.failed, KSo.bytes, KSo.mk])
      | (refine OE.bind (oe_Rd_readFunctions hfg hN (by omega) (by omega) (by omega) _) ?_; rintro ⟨_, _⟩ ⟨_, _⟩ ⟨⟨a9, L9, b9, h1, h2, h3, h4, h5⟩, h6⟩; dsimp only at h1 h2 h6; subst h1 h2 h6; try dsimp only [KSo.at_, KSo.limit, KSo.failed, KSo.bytes, KSo.mk])
      | (refine OE.bind (oe_Rd_readMemories hfg hN (by omega) (by omega) (by omega) _) ?_; rintro ⟨_, _⟩ ⟨_, _⟩ ⟨⟨a9, L9, b9, h1, h2, h3, h4, h5⟩, h6⟩; dsimp only at h1 h2 h6; subst h1 h2 h6; try dsimp only [KSo.at_, KSo.limit, KSo.failed, KSo.bytes, KSo.mk])
      | (refine OE.bind (oe_Rd_readInitialValue hfg hN (by omega) (by omega) (by omega) _ _) ?_; rintro ⟨_, _⟩ ⟨_, _⟩ ⟨⟨a9, L9, b9, h1, h2, h3, h4, h5⟩, h6⟩; dsimp only at h1 h2 h6; subst h1 h2 h6; try dsimp only [KSo.at_, KSo.limit, KSo.failed, KSo.bytes, KSo.mk])
      | (refine OE.same (fun _ => ?_)))
set_option maxRecDepth 20000 in
theorem oe_Rd_readGlobals (hfg : ∀ k : Nat, (k : Int) < N → f k = g k) (hN : N ≤ 2000) {a L : Int} {b : Bool} (h0 : 0 ≤ a) (h1 : 0 ≤ L) (h2 : L ≤ N) (zW6 : KW6) : OE (Rp N f g) (f_Rd_readGlobals fu (KSo.mk a L b f) zW6) (f_Rd_readGlobals fu (KSo.mk a L b g) zW6) := by
  unfold f_Rd_readGlobals
  simp only [jp, KSo.at_, KSo.limit, KSo.failed, KSo.bytes, KSo.mk]
  repeat' (first
    | (refine OE.ite (fun _ => ?_) (fun _ => ?_))
    | exact OE.bad
    | exact OE.ret ⟨(sq_mk (by omega) (by omega) (by omega)), rfl⟩
    | exact OE.ret (sq_mk (by omega) (by omega) (by omega))
    | exact OE.ret rfl
    | (refine OE.bind (oe_So_octet hfg hN (by omega) (by omega) (by omega)) ?_; rintro ⟨_, _⟩ ⟨_, _⟩ ⟨⟨a9, L9, b9, h1, h2, h3, h4, h5⟩, h6⟩; dsimp only at h1 h2 h6; subst h1 h2 h6; try dsimp only [KSo.at_, KSo.limit, KSo.failed, KSo.bytes, KSo.mk])
    | (refine OE.bind (oe_So_fail hfg hN (by omega) (by omega) (by omega)) ?_; rintro _ _ ⟨a9, L9, b9, h1, h2, h3, h4, h5⟩; subst h1 h2; try dsimp only [KSo.at_, KSo.limit, KSo.failed, KSo.bytes, KSo.mk])
    | (refine OE.bind (oe_So_hasFailed hfg hN (by omega) (by omega) (by omega)) ?_; rintro _ _ h1; subst h1; try dsimp only [KSo.at_, KSo.limit, KSo.failed, KSo.bytes, KSo.mk])
    | (refine OE.bind (oe_So_hasMore hfg hN (by omega) (by omega) (by omega)) ?_; rintro _ _ h1; subst h1; try dsimp only [KSo.at_, KSo.limit, KSo.failed, KSo.bytes, KSo.mk])
    | (refine OE.bind (oe_So_require hfg hN (by omega) (by omega) (by omega) _) ?_; rintro _ _ ⟨a9, L9, b9, h1, h2, h3, h4, h5⟩; subst h1 h2; try dsimp only [KSo.at_, KSo.limit, KSo.failed, KSo.bytes, KSo.mk])
    | (refine OE.bind (oe_So_flag hfg hN (by omega) (by omega) (by omega)) ?_; rintro ⟨_, _⟩ ⟨_, _⟩ ⟨⟨a9, L9, b9, h1, h2, h3, h4, h5⟩, h6⟩; dsimp only at h1 h2 h6; subst h1 h2 h6; try dsimp only [KSo.at_, KSo.limit, KSo.failed, KSo.bytes, KSo.mk])
    | (refine OE.bind (oe_So_valueType hfg hN (by omega) (by omega) (by omega)) ?_; rintro ⟨_, _⟩ ⟨_, _⟩ ⟨⟨a9, L9, b9, h1, h2, h3, h4, h5⟩, h6⟩; dsimp only at h1 h2 h6; subst h1 h2 h6; try dsimp only [KSo.at_, KSo.limit, KSo.failed, KSo.bytes, KSo.mk])
    | (refine OE.bind (oe_So_left hfg hN (by omega) (by omega) (by omega)) ?_; rintro _ _ h1; subst h1; try dsimp only [KSo.at_, KSo.limit, KSo.failed, KSo.bytes, KSo.mk])
    | (refine OE.bind (oe_So_skipRest hfg hN (by omega) (by omega) (by omega)) ?_; rintro _ _ ⟨a9, L9, b9, h1, h2, h3, h4, h5⟩; subst h1 h2; try dsimp only [KSo.at_, KSo.limit, KSo.failed, KSo.bytes, KSo.mk])
    | (refine OE.bind (oe_So_widen (by omega) (by omega) (by omega)) ?_; rintro _ _ ⟨a9, L9, b9, h1, h2, h3, h4, h5⟩; subst h1 h2; try dsimp only [KSo.at_, KSo.limit, KSo.failed, KSo.bytes, KSo.mk])
    | (refine OE.bind (oe_uns hfg hN (by omega) (by omega) (by omega) _) ?_; rintro ⟨_, _⟩ ⟨_, _⟩ ⟨⟨a9, L9, b9, h1, h2, h3, h4, h5⟩, h6⟩; dsimp only at h1 h2 h6; subst h1 h2 h6; try dsimp only [KSo.at_, KSo.limit, KSo.failed, KSo.bytes, KSo.mk])
    | (refine OE.bind (oe_nar hfg hN (by omega) (by omega) (by omega)) ?_; rintro ⟨_, _⟩ ⟨_, _⟩ ⟨⟨a9, L9, b9, h1, h2, h3, h4, h5⟩, h6, h7, h8⟩; dsimp only at h1 h2 h6 h7 h8; subst h1 h2 h6; try dsimp only [KSo.at_, KSo.limit, KSo.failed, KSo.bytes, KSo.mk])
    | (refine OE.bind (oeL5_So_signed hfg hN _ _ _ _ _ _ _ (by omega) (by omega) (by omega)) ?_; rintro ⟨_, _⟩ ⟨_, _⟩ ⟨⟨a9, L9, b9, h1, h2, h3, h4, h5⟩, h6⟩; dsimp only at h1 h2 h6; subst h1 h2 h6; try dsimp only [KSo.at_, KSo.limit, KSo.failed, KSo.bytes, KSo.mk])
    | (refine OE.bind (oe_So_signed hfg hN (by omega) (by omega) (by omega) _) ?_; rintro ⟨_, _⟩ ⟨_, _⟩ ⟨⟨a9, L9, b9, h1, h2, h3, h4, h5⟩, h6⟩; dsimp only at h1 h2 h6; subst h1 h2 h6; try dsimp only [KSo.at_, KSo.limit, KSo.failed, KSo.bytes, KSo.mk])
    | (refine OE.bind (oe_BR_openBlock hfg hN (by omega) (by omega) (by omega) _ _ _) ?_; rintro ⟨_, _⟩ ⟨_, _⟩ ⟨⟨a9, L9, b9, h1, h2, h3, h4, h5⟩, h6⟩; dsimp only at h1 h2 h6; subst h1 h2 h6; try dsimp only [KSo.at_, KSo.limit, KSo.failed, KSo.bytes, KSo.mk])
    | (refine OE.bind (oe_BR_turnToElse hfg hN (by omega) (by omega) (by omega) _ _ _) ?_; rintro ⟨_, _⟩ ⟨_, _⟩ ⟨⟨a9, L9, b9, h1, h2, h3, h4, h5⟩, h6⟩; dsimp only at h1 h2 h6; subst h1 h2 h6; try dsimp only [KSo.at_, KSo.limit, KSo.failed, KSo.bytes, KSo.mk])
    | (refine OE.bind (oeL41_BR_readTable hfg hN _ _ _ _ _ _ _ _ _ _ _ (by omega) (by omega) (by omega)) ?_; rintro ⟨_, _⟩ ⟨_, _⟩ ⟨⟨a9, L9, b9, h1, h2, h3, h4, h5⟩, h6⟩; dsimp only at h1 h2 h6; subst h1 h2 h6; try dsimp only [KSo.at_, KSo.limit, KSo.failed, KSo.bytes, KSo.mk])
    | (refine OE.bind (oe_BR_readTable hfg hN (by omega) (by omega) (by omega) _ _ _) ?_; rintro ⟨_, _⟩ ⟨_, _⟩ ⟨⟨a9, L9, b9, h1, h2, h3, h4, h5⟩, h6⟩; dsimp only at h1 h2 h6; subst h1 h2 h6; try dsimp only [KSo.at_, KSo.limit, KSo.failed, KSo.bytes, KSo.mk])
    | (refine OE.bind (oe_BR_readImmediate hfg hN (by omega) (by omega) (by omega) _ _ _) ?_; rintro ⟨_, _⟩ ⟨_, _⟩ ⟨⟨a9, L9, b9, h1, h2, h3, h4, h5⟩, h6⟩; dsimp only at h1 h2 h6; subst h1 h2 h6; try dsimp only [KSo.at_, KSo.limit, KSo.failed, KSo.bytes, KSo.mk])
    | (refine OE.bind (oe_BR_readInstruction hfg hN (by omega) (by omega) (by omega) _ _ _) ?_; rintro ⟨_, _⟩ ⟨_, _⟩ ⟨⟨a9, L9, b9, h1, h2, h3, h4, h5⟩, h6⟩; dsimp only at h1 h2 h6; subst h1 h2 h6; try dsimp only [KSo.at_, KSo.limit, KSo.failed, KSo.bytes, KSo.mk])
    | (refine OE.bind (oeL52_BR_readLocals hfg hN _ _ _ _ _ _ _ _ _ _ _ _ _) ?_; rintro _ _ h1; subst h1; try dsimp only [KSo.at_, KSo.limit, KSo.failed, KSo.bytes, KSo.mk])
    | (refine OE.bind (oeL18_BR_readLocals hfg hN _ _ _ _ _ _ _ _ _ _ _ _ (by omega) (by omega) (by omega)) ?_; rintro ⟨_, _⟩ ⟨_, _⟩ ⟨⟨a9, L9, b9, h1, h2, h3, h4, h5⟩, h6⟩; dsimp only at h1 h2 h6; subst h1 h2 h6; try dsimp only [KSo.at_, KSo.limit, KSo.failed, KSo.bytes, KSo.mk])
    | (refine OE.bind (oe_BR_readLocals hfg hN (by omega) (by omega) (by omega) _ _) ?_; rintro ⟨_, _⟩ ⟨_, _⟩ ⟨⟨a9, L9, b9, h1, h2, h3, h4, h5⟩, h6⟩; dsimp only at h1 h2 h6; subst h1 h2 h6; try dsimp only [KSo.at_, KSo.limit, KSo.failed, KSo.bytes, KSo.mk])
    | (refine OE.bind (oeL73_BR_readAll hfg hN _ _ _ _ _ _ _ _ _ (by omega) (by omega) (by omega)) ?_; rintro ⟨_, _⟩ ⟨_, _⟩ ⟨⟨a9, L9, b9, h1, h2, h3, h4, h5⟩, h6⟩; dsimp only at h1 h2 h6; subst h1 h2 h6; try dsimp only [KSo.at_, KSo.limit, KSo.failed, KSo.bytes, KSo.mk])
    | (refine OE.bind (oeL16_BR_readAll hfg hN _ _ _ _ _ _ _ _ _ _ (by omega) (by omega) (by omega)) ?_; rintro ⟨_, _⟩ ⟨_, _⟩ ⟨⟨a9, L9, b9, h1, h2, h3, h4, h5⟩, h6⟩; dsimp only at h1 h2 h6; subst h1 h2 h6; try dsimp only [KSo.at_, KSo.limit, KSo.failed, KSo.bytes, KSo.mk])
    | (refine OE.bind (oe_BR_readAll hfg hN (by omega) (by omega) (by omega) _ _ _ _ _) ?_; rintro ⟨_, _⟩ ⟨_, _⟩ ⟨⟨a9, L9, b9, h1, h2, h3, h4, h5⟩, h6⟩; dsimp only at h1 h2 h6; subst h1 h2 h6; try dsimp only [KSo.at_, KSo.limit, KSo.failed, KSo.bytes, KSo.mk])
    | (refine OE.bind (oe_Rd_readCustom hfg hN (by omega) (by omega) (by omega)) ?_; rintro _ _ ⟨a9, L9, b9, h1, h2, h3, h4, h5⟩; subst h1 h2; try dsimp only [KSo.at_, KSo.limit, KSo.failed, KSo.bytes, KSo.mk])
    | (refine OE.bind (oeL62_Rd_readTypes hfg hN _ _ _ _ _ _ _ (by omega) (by omega) (by omega)) ?_; rintro ⟨_, _⟩ ⟨_, _⟩ ⟨⟨a9, L9, b9, h1, h2, h3, h4, h5⟩, h6⟩; dsimp only at h1 h2 h6; subst h1 h2 h6; try dsimp only [KSo.at_, KSo.limit, KSo.failed, KSo.bytes, KSo.mk])
    | (refine OE.bind (oeL20_Rd_readTypes hfg hN _ _ _ _ _ _ (by omega) (by omega) (by omega)) ?_; rintro ⟨_, _⟩ ⟨_, _⟩ ⟨⟨a9, L9, b9, h1, h2, h3, h4, h5⟩, h6⟩; dsimp only at h1 h2 h6; subst h1 h2 h6; try dsimp only [KSo.at_, KSo.limit, KSo.failed, KSo.bytes, KSo.mk])
    | (refine OE.bind (oe_Rd_readTypes hfg hN (by omega) (by omega) (by omega) _) ?_; rintro ⟨_, _⟩ ⟨_, _⟩ ⟨⟨a9, L9, b9, h1, h2, h3, h4, h5⟩, h6⟩; dsimp only at h1 h2 h6; subst h1 h2 h6; try dsimp only [KSo.at_, KSo.limit, KSo.failed, KSo.bytes, KSo.mk])
    | (refine OE.bind (oeL20_Rd_readFunctions hfg hN _ _ _ _ _ _ (by omega) (by omega) (by omega)) ?_; rintro ⟨_, _⟩ ⟨_, _⟩ ⟨⟨a9, L9, b9, h1, h2, h3, h4, h5⟩, h6⟩; dsimp only at h1 h2 h6; subst h1 h2 h6; try dsimp only [KSo.at_, KSo.limit, KSo.failed, KSo.bytes, KSo.mk])
    | (refine OE.bind (oe_Rd_readFunctions hfg hN (by omega) (by omega) (by omega) _) ?_; rintro ⟨_, _⟩ ⟨_, _⟩ ⟨⟨a9, L9, b9, h1, h2, h3, h4, h5⟩, h6⟩; dsimp only at h1 h2 h6; subst h1 h2 h6; try dsimp only [KSo.at_, KSo.limit, KSo.failed, KSo.bytes, KSo.mk])
    | (refine OE.bind (oe_Rd_readMemories hfg hN (by omega) (by omega) (by omega) _) ?_; rintro ⟨_, _⟩ ⟨_, _⟩ ⟨⟨a9, L9, b9, h1, h2, h3, h4, h5⟩, h6⟩; dsimp only at h1 h2 h6; subst h1 h2 h6; try dsimp only [KSo.at_, KSo.limit, KSo.failed, KSo.bytes, KSo.mk])
    | (refine OE.bind (oe_Rd_readInitialValue hfg hN (by omega) (by omega) (by omega) _ _) ?_; rintro ⟨_, _⟩ ⟨_, _⟩ ⟨⟨a9, L9, b9, h1, h2, h3, h4, h5⟩, h6⟩; dsimp only at h1 h2 h6; subst h1 h2 h6; try dsimp only [KSo.at_, KSo.limit, KSo.failed, KSo.bytes, KSo.mk])
    | (refine OE.bind (oeL20_Rd_readGlobals hfg hN _ _ _ _ _ _ (by omega) (by omega) (by omega)) ?_; rintro ⟨_, _⟩ ⟨_, _⟩ ⟨⟨a9, L9, b9, h1, h2, h3, h4, h5⟩, h6⟩; dsimp only at h1 h2 h6; subst h1 h2 h6; try dsimp only [KSo.at_, KSo.limit, KSo.failed, KSo.bytes, KSo.mk])
    | (refine OE.same (fun _ => ?_)))
set_option maxRecDepth 20000 in
theorem oeL52_Rd_readExports (hfg : ∀ k : Nat, (k : Int) < N → f k = g k) (hN : N ≤ 2000) (w_x_10 : Int) : ∀ (n : Nat) (a L : Int) (b : Bool) (w1 : KEx) (w2 : Int), 0 ≤ a → 0 ≤ L → L ≤ N → OE (Rp N f g) (L52_Rd_readExports fu w_x_10 n (KSo.mk a L b f) w1 w2) (L52_Rd_readExports fu w_x_10 n (KSo.mk a L b g) w1 w2) := by
  intro n
  induction n with
  | zero => intro a L b w1 w2 h0 h1 h2; exact OE.bad
  | succ n ih =>
    intro a L b w1 w2 h0 h1 h2
    rw [L52_Rd_readExports.eq_2, L52_Rd_readExports.eq_2]
    simp only [jp, KSo.at_, KSo.limit, KSo.failed, KSo.bytes, KSo.mk]
    repeat' (first
      | (refine OE.ite (fun _ => ?_) (fun _ => ?_))
      | exact OE.bad
      | exact OE.ret ⟨(sq_mk (by omega) (by omega) (by omega)), rfl⟩
      | exact OE.ret (sq_mk (by omega) (by omega) (by omega))
      | exact OE.ret rfl
      | exact ih _ _ _ _ _ (by omega) (by omega) (by omega)
      | (refine OE.bind (oe_So_octet hfg hN (by omega) (by omega) (by omega)) ?_; rintro ⟨_, _⟩ ⟨_, _⟩ ⟨⟨a9, L9, b9, h1, h2, h3, h4, h5⟩, h6⟩; dsimp only at h1 h2 h6; subst h1 h2 h6; try dsimp only [KSo.at_, KSo.limit, KSo.failed, KSo.bytes, KSo.mk])
      | (refine OE.bind (oe_So_fail hfg hN (by omega) (by omega) (by omega)) ?_; rintro _ _ ⟨a9, L9, b9, h1, h2, h3, h4, h5⟩; subst h1 h2; try dsimp only [KSo.at_, KSo.limit, KSo.failed, KSo.bytes, KSo.mk])
      | (refine OE.bind (oe_So_hasFailed hfg hN (by omega) (by omega) (by omega)) ?_; rintro _ _ h1; subst h1; try dsimp only [KSo.at_, KSo.limit, KSo.failed, KSo.bytes, KSo.mk])
      | (refine OE.bind (oe_So_hasMore hfg hN (by omega) (by omega) (by omega)) ?_; rintro _ _ h1; subst h1; try dsimp only [KSo.at_, KSo.limit, KSo.failed, KSo.bytes, KSo.mk])
      | (refine OE.bind (oe_So_require hfg hN (by omega) (by omega) (by omega) _) ?_; rintro _ _ ⟨a9, L9, b9, h1, h2, h3, h4, h5⟩; subst h1 h2; try dsimp only [KSo.at_, KSo.limit, KSo.failed, KSo.bytes, KSo.mk])
      | (refine OE.bind (oe_So_flag hfg hN (by omega) (by omega) (by omega)) ?_; rintro ⟨_, _⟩ ⟨_, _⟩ ⟨⟨a9, L9, b9, h1, h2, h3, h4, h5⟩, h6⟩; dsimp only at h1 h2 h6; subst h1 h2 h6; try dsimp only [KSo.at_, KSo.limit, KSo.failed, KSo.bytes, KSo.mk])
      | (refine OE.bind (oe_So_valueType hfg hN (by omega) (by omega) (by omega)) ?_; rintro ⟨_, _⟩ ⟨_, _⟩ ⟨⟨a9, L9, b9, h1, h2, h3, h4, h5⟩, h6⟩; dsimp only at h1 h2 h6; subst h1 h2 h6; try dsimp only [KSo.at_, KSo.limit, KSo.failed, KSo.bytes, KSo.mk])
      | (refine OE.bind (oe_So_left hfg hN (by omega) (by omega) (by omega)) ?_; rintro _ _ h1; subst h1; try dsimp only [KSo.at_, KSo.limit, KSo.failed, KSo.bytes, KSo.mk])
      | (refine OE.bind (oe_So_skipRest hfg hN (by omega) (by omega) (by omega)) ?_; rintro _ _ ⟨a9, L9, b9, h1, h2, h3, h4, h5⟩; subst h1 h2; try dsimp only [KSo.at_, KSo.limit, KSo.failed, KSo.bytes, KSo.mk])
      | (refine OE.bind (oe_So_widen (by omega) (by omega) (by omega)) ?_; rintro _ _ ⟨a9, L9, b9, h1, h2, h3, h4, h5⟩; subst h1 h2; try dsimp only [KSo.at_, KSo.limit, KSo.failed, KSo.bytes, KSo.mk])
      | (refine OE.bind (oe_uns hfg hN (by omega) (by omega) (by omega) _) ?_; rintro ⟨_, _⟩ ⟨_, _⟩ ⟨⟨a9, L9, b9, h1, h2, h3, h4, h5⟩, h6⟩; dsimp only at h1 h2 h6; subst h1 h2 h6; try dsimp only [KSo.at_, KSo.limit, KSo.failed, KSo.bytes, KSo.mk])
      | (refine OE.bind (oe_nar hfg hN (by omega) (by omega) (by omega)) ?_; rintro ⟨_, _⟩ ⟨_, _⟩ ⟨⟨a9, L9, b9, h1, h2, h3, h4, h5⟩, h6, h7, h8⟩; dsimp only at h1 h2 h6 h7 h8; subst h1 h2 h6; try dsimp only [KSo.at_, KSo.limit, KSo.failed, KSo.bytes, KSo.mk])
      | (refine OE.bind (oeL5_So_signed hfg hN _ _ _ _ _ _ _ (by omega) (by omega) (by omega)) ?_; rintro ⟨_, _⟩ ⟨_, _⟩ ⟨⟨a9, L9, b9, h1, h2, h3, h4, h5⟩, h6⟩; dsimp only at h1 h2 h6; subst h1 h2 h6; try dsimp only [KSo.at_, KSo.limit, KSo.failed, KSo.bytes, KSo.mk])
      | (refine OE.bind (oe_So_signed hfg hN (by omega) (by omega) (by omega) _) ?_; rintro ⟨_, _⟩ ⟨_, _⟩ ⟨⟨a9, L9, b9, h1, h2, h3, h4, h5⟩, h6⟩; dsimp only at h1 h2 h6; subst h1 h2 h6; try dsimp only [KSo.at_, KSo.limit, KSo.failed, KSo.bytes, KSo.mk])
      | (refine OE.bind (oe_BR_openBlock hfg hN (by omega) (by omega) (by omega) _ _ _) ?_; rintro ⟨_, _⟩ ⟨_, _⟩ ⟨⟨a9, L9, b9, h1, h2, h3, h4, h5⟩, h6⟩; dsimp only at h1 h2 h6; subst h1 h2 h6; try dsimp only [KSo.at_, KSo.limit, KSo.failed, KSo.bytes, KSo.mk])
      | (refine OE.bind (oe_BR_turnToElse hfg hN (by omega) (by omega) (by omega) _ _ _) ?_; rintro ⟨_, _⟩ ⟨_, _⟩ ⟨⟨a9, L9, b9, h1, h2, h3, h4, h5⟩, h6⟩; dsimp only at h1 h2 h6; subst h1 h2 h6; try dsimp only [KSo.at_, KSo.limit, KSo.failed, KSo.bytes, KSo.mk])
      | (refine OE.bind (oeL41_BR_readTable hfg hN _ _ _ _ _ _ _ _ _ _ _ (by omega) (by omega) (by omega)) ?_; rintro ⟨_, _⟩ ⟨_, _⟩ ⟨⟨a9, L9, b9, h1, h2, h3, h4, h5⟩, h6⟩; dsimp only at h1 h2 h6; subst h1 h2 h6; try dsimp only [KSo.at_, KSo.limit, KSo.failed, KSo.bytes, KSo.mk])
      | (refine OE.bind (oe_BR_readTable hfg hN (by omega) (by omega) (by omega) _ _ _) ?_; rintro ⟨_, _⟩ ⟨_, _⟩ ⟨⟨a9, L9, b9, h1, h2, h3, h4, h5⟩, h6⟩; dsimp only at h1 h2 h6; subst h1 h2 h6; try dsimp only [KSo.at_, KSo.limit, KSo.failed, KSo.bytes, KSo.mk])
      | (refine OE.bind (oe_BR_readImmediate hfg hN (by omega) (by omega) (by omega) _ _ _) ?_; rintro ⟨_, _⟩ ⟨_, _⟩ ⟨⟨a9, L9, b9, h1, h2, h3, h4, h5⟩, h6⟩; dsimp only at h1 h2 h6; subst h1 h2 h6; try dsimp only [KSo.at_, KSo.limit, KSo.failed, KSo.bytes, KSo.mk])
      | (refine OE.bind (oe_BR_readInstruction hfg hN (by omega) (by omega) (by omega) _ _ _) ?_; rintro ⟨_, _⟩ ⟨_, _⟩ ⟨⟨a9, L9, b9, h1, h2, h3, h4, h5⟩, h6⟩; dsimp only at h1 h2 h6; subst h1 h2 h6; try dsimp only [KSo.at_, KSo.limit, KSo.failed, KSo.bytes, KSo.mk])
      | (refine OE.bind (oeL52_BR_readLocals hfg hN _ _ _ _ _ _ _ _ _ _ _ _ _) ?_; rintro _ _ h1; subst h1; try dsimp only [KSo.at_, KSo.limit, KSo.failed, KSo.bytes, KSo.mk])
      | (refine OE.bind (oeL18_BR_readLocals hfg hN _ _ _ _ _ _ _ _ _ _ _ _ (by omega) (by omega) (by omega)) ?_; rintro ⟨_, _⟩ ⟨_, _⟩ ⟨⟨a9, L9, b9, h1, h2, h3, h4, h5⟩, h6⟩; dsimp only at h1 h2 h6; subst h1 h2 h6; try dsimp only [KSo.at_, KSo.limit, KSo.failed, KSo.bytes, KSo.mk])
      | (refine OE.bind (oe_BR_readLocals hfg hN (by omega) (by omega) (by omega) _ _) ?_; rintro ⟨_, _⟩ ⟨_, _⟩ ⟨⟨a9, L9, b9, h1, h2, h3, h4, h5⟩, h6⟩; dsimp only at h1 h2 h6; subst h1 h2 h6; try dsimp only [KSo.at_, KSo.limit, KSo.failed, KSo.bytes, KSo.mk])
      | (refine OE.bind (oeL73_BR_readAll hfg hN _ _ _ _ _ _ _ _ _ (by omega) (by omega) (by omega)) ?_; rintro ⟨_, _⟩ ⟨_, _⟩ ⟨⟨a9, L9, b9, h1, h2, h3, h4, h5⟩, h6⟩; dsimp only at h1 h2 h6; subst h1 h2 h6; try dsimp only [KSo.at_, KSo.limit, KSo.failed, KSo.bytes, KSo.mk])
      | (refine OE.bind (oeL16_BR_readAll hfg hN _ _ _ _ _ _ _ _ _ _ (by omega) (by omega) (by omega)) ?_; rintro ⟨_, _⟩ ⟨_, _⟩ ⟨⟨a9, L9, b9, h1, h2, h3, h4, h5⟩, h6⟩; dsimp only at h1 h2 h6; subst h1 h2 h6; try dsimp only [KSo.at_, KSo.limit, KSo.failed, KSo.bytes, KSo.mk])
      | (refine OE.bind (oe_BR_readAll hfg hN (by omega) (by omega) (by omega) _ _ _ _ _) ?_; rintro ⟨_, _⟩ ⟨_, _⟩ ⟨⟨a9, L9, b9, h1, h2, h3, h4, h5⟩, h6⟩; dsimp only at h1 h2 h6; subst h1 h2 h6; try dsimp only [KSo.at_, KSo.limit, KSo.failed, KSo.bytes, KSo.mk])
      | (refine OE.bind (oe_Rd_readCustom hfg hN (by omega) (by omega) (by omega)) ?_; rintro _ _ ⟨a9, L9, b9, h1, h2, h3, h4, h5⟩; subst h1 h2; try dsimp only [KSo.at_, KSo.limit, KSo.failed, KSo.bytes, KSo.mk])
      | (refine OE.bind (oeL62_Rd_readTypes hfg hN _ _ _ _ _ _ _ (by omega) (by omega) (by omega)) ?_; rintro ⟨_, _⟩ ⟨_, _⟩ ⟨⟨a9, L9, b9, h1, h2, h3, h4, h5⟩, h6⟩; dsimp only at h1 h2 h6; subst h1 h2 h6; try dsimp only [KSo.at_, KSo.limit, KSo.failed, KSo.bytes, KSo.mk])
      | (refine OE.bind (oeL20_Rd_readTypes hfg hN _ _ _ _ _ _ (by omega) (by omega) (by omega)) ?_; rintro ⟨_, _⟩ ⟨_, _⟩ ⟨⟨a9, L9, b9, h1, h2, h3, h4, h5⟩, h6⟩; dsimp only at h1 h2 h6; subst h1 h2 h6; try dsimp only [KSo.at_, KSo.limit, KSo.failed, KSo.bytes, KSo.mk])
      | (refine OE.bind (oe_Rd_readTypes hfg hN (by omega) (by omega) (by omega) _) ?_; rintro ⟨_, _⟩ ⟨_, _⟩ ⟨⟨a9, L9, b9, h1, h2, h3, h4, h5⟩, h6⟩; dsimp only at h1 h2 h6; subst h1 h2 h6; try dsimp only [KSo.at_, KSo.limit, KSo.failed, KSo.bytes, KSo.mk])
      | (refine OE.bind (oeL20_Rd_readFunctions hfg hN _ _ _ _ _ _ (by omega) (by omega) (by omega)) ?_; rintro ⟨_, _⟩ ⟨_, _⟩ ⟨⟨a9, L9, b9, h1, h2, h3, h4, h5⟩, h6⟩; dsimp only at h1 h2 h6; subst h1 h2 h6; try dsimp only [KSo.at_, KSo.limit, KSo.failed, KSo.bytes, KSo.mk])
      | (refine OE.bind (oe_Rd_readFunctions hfg hN (by omega) (by omega) (by omega) _) ?_; rintro ⟨_, _⟩ ⟨_, _⟩ ⟨⟨a9, L9, b9, h1, h2, h3, h4, h5⟩, h6⟩; dsimp only at h1 h2 h6; subst h1 h2 h6; try dsimp only [KSo.at_, KSo.limit, KSo.failed, KSo.bytes, KSo.mk])
      | (refine OE.bind (oe_Rd_readMemories hfg hN (by omega) (by omega) (by omega) _) ?_; rintro ⟨_, _⟩ ⟨_, _⟩ ⟨⟨a9, L9, b9, h1, h2, h3, h4, h5⟩, h6⟩; dsimp only at h1 h2 h6; subst h1 h2 h6; try dsimp only [KSo.at_, KSo.limit, KSo.failed, KSo.bytes, KSo.mk])
      | (refine OE.bind (oe_Rd_readInitialValue hfg hN (by omega) (by omega) (by omega) _ _) ?_; rintro ⟨_, _⟩ ⟨_, _⟩ ⟨⟨a9, L9, b9, h1, h2, h3, h4, h5⟩, h6⟩; dsimp only at h1 h2 h6; subst h1 h2 h6; try dsimp only [KSo.at_, KSo.limit, KSo.failed, KSo.bytes, KSo.mk])
      | (refine OE.bind (oeL20_Rd_readGlobals hfg hN _ _ _ _ _ _ (by omega) (by omega) (by omega)) ?_; rintro ⟨_, _⟩ ⟨_, _⟩ ⟨⟨a9, L9, b9, h1, h2, h3, h4, h5⟩, h6⟩; dsimp only at h1 h2 h6; subst h1 h2 h6; try dsimp only [KSo.at_, KSo.limit, KSo.failed, KSo.bytes, KSo.mk])
      | (refine OE.bind (oe_Rd_readGlobals hfg hN (by omega) (by omega) (by omega) _) ?_; rintro ⟨_, _⟩ ⟨_, _⟩ ⟨⟨a9, L9, b9, h1, h2, h3, h4, h5⟩, h6⟩; dsimp only at h1 h2 h6; subst h1 h2 h6; try dsimp only [KSo.at_, KSo.limit, KSo.failed, KSo.bytes, KSo.mk])
      | (refine OE.same (fun _ => ?_)))
set_option maxRecDepth 20000 in
theorem oeL25_Rd_readExports (hfg : ∀ k : Nat, (k : Int) < N → f k = g k) (hN : N ≤ 2000)  : ∀ (n : Nat) (a L : Int) (b : Bool) (w1 : KEx) (w2 : Int), 0 ≤ a → 0 ≤ L → L ≤ N → OE (Rp N f g) (L25_Rd_readExports fu  n (KSo.mk a L b f) w1 w2) (L25_Rd_readExports fu  n (KSo.mk a L b g) w1 w2) := by
  intro n
  induction n with
  | zero => intro a L b w1 w2 h0 h1 h2; exact OE.bad
  | succ n ih =>
    intro a L b w1 w2 h0 h1 h2
    rw [L25_Rd_readExports.eq_2, L25_Rd_readExports.eq_2]
    simp only [jp, KSo.at_, KSo.limit, KSo.failed, KSo.bytes, KSo.mk]
    repeat' (first
      | (refine OE.ite (fun _ => ?_) (fun _ => ?_))
      | exact OE.bad
      | exact OE.ret ⟨(sq_mk (by omega) (by omega) (by omega)), rfl⟩
      | exact OE.ret (sq_mk (by omega) (by omega) (by omega))
      | exact OE.ret rfl
      | exact ih _ _ _ _ _ (by omega) (by omega) (by omega)
      | (refine OE.bind (oe_So_octet hfg hN (by omega) (by omega) (by omega)) ?_; rintro ⟨_, _⟩ ⟨_, _⟩ ⟨⟨a9, L9, b9, h1, h2, h3, h4, h5⟩, h6⟩; dsimp only at h1 h2 h6; subst h1 h2 h6; try dsimp only [KSo.at_, KSo.limit, KSo.failed, KSo.bytes, KSo.mk])
      | (refine OE.bind (oe_So_fail hfg hN (by omega) (by omega) (by omega)) ?_; rintro _ _ ⟨a9, L9, b9, h1, h2, h3, h4, h5⟩; subst h1 h2; try dsimp only [KSo.at_, KSo.limit, KSo.failed, KSo.bytes, KSo.mk])
      | (refine OE.bind (oe_So_hasFailed hfg hN (by omega) (by omega) (by omega)) ?_; rintro _ _ h1; subst h1; try dsimp only [KSo.at_, KSo.limit, KSo.failed, KSo.bytes, KSo.mk])
      | (refine OE.bind (oe_So_hasMore hfg hN (by omega) (by omega) (by omega)) ?_; rintro _ _ h1; subst h1; try dsimp only [KSo.at_, KSo.limit, KSo.failed, KSo.bytes, KSo.mk])
      | (refine OE.bind (oe_So_require hfg hN (by omega) (by omega) (by omega) _) ?_; rintro _ _ ⟨a9, L9, b9, h1, h2, h3, h4, h5⟩; subst h1 h2; try dsimp only [KSo.at_, KSo.limit, KSo.failed, KSo.bytes, KSo.mk])
      | (refine OE.bind (oe_So_flag hfg hN (by omega) (by omega) (by omega)) ?_; rintro ⟨_, _⟩ ⟨_, _⟩ ⟨⟨a9, L9, b9, h1, h2, h3, h4, h5⟩, h6⟩; dsimp only at h1 h2 h6; subst h1 h2 h6; try dsimp only [KSo.at_, KSo.limit, KSo.failed, KSo.bytes, KSo.mk])
      | (refine OE.bind (oe_So_valueType hfg hN (by omega) (by omega) (by omega)) ?_; rintro ⟨_, _⟩ ⟨_, _⟩ ⟨⟨a9, L9, b9, h1, h2, h3, h4, h5⟩, h6⟩; dsimp only at h1 h2 h6; subst h1 h2 h6; try dsimp only [KSo.at_, KSo.limit, KSo.failed, KSo.bytes, KSo.mk])
      | (refine OE.bind (oe_So_left hfg hN (by omega) (by omega) (by omega)) ?_; rintro _ _ h1; subst h1; try dsimp only [KSo.at_, KSo.limit, KSo.failed, KSo.bytes, KSo.mk])
      | (refine OE.bind (oe_So_skipRest hfg hN (by omega) (by omega) (by omega)) ?_; rintro _ _ ⟨a9, L9, b9, h1, h2, h3, h4, h5⟩; subst h1 h2; try dsimp only [KSo.at_, KSo.limit, KSo.failed, KSo.bytes, KSo.mk])
      | (refine OE.bind (oe_So_widen (by omega) (by omega) (by omega)) ?_; rintro _ _ ⟨a9, L9, b9, h1, h2, h3, h4, h5⟩; subst h1 h2; try dsimp only [KSo.at_, KSo.limit, KSo.failed, KSo.bytes, KSo.mk])
      | (refine OE.bind (oe_uns hfg hN (by omega) (by omega) (by omega) _) ?_; rintro ⟨_, _⟩ ⟨_, _⟩ ⟨⟨a9, L9, b9, h1, h2, h3, h4, h5⟩, h6⟩; dsimp only at h1 h2 h6; subst h1 h2 h6; try dsimp only [KSo.at_, KSo.limit, KSo.failed, KSo.bytes, KSo.mk])
      | (refine OE.bind (oe_nar hfg hN (by omega) (by omega) (by omega)) ?_; rintro ⟨_, _⟩ ⟨_, _⟩ ⟨⟨a9, L9, b9, h1, h2, h3, h4, h5⟩, h6, h7, h8⟩; dsimp only at h1 h2 h6 h7 h8; subst h1 h2 h6; try dsimp only [KSo.at_, KSo.limit, KSo.failed, KSo.bytes, KSo.mk])
      | (refine OE.bind (oeL5_So_signed hfg hN _ _ _ _ _ _ _ (by omega) (by omega) (by omega)) ?_; rintro ⟨_, _⟩ ⟨_, _⟩ ⟨⟨a9, L9, b9, h1, h2, h3, h4, h5⟩, h6⟩; dsimp only at h1 h2 h6; subst h1 h2 h6; try dsimp only [KSo.at_, KSo.limit, KSo.failed, KSo.bytes, KSo.mk])
      | (refine OE.bind (oe_So_signed hfg hN (by omega) (by omega) (by omega) _) ?_; rintro ⟨_, _⟩ ⟨_, _⟩ ⟨⟨a9, L9, b9, h1, h2, h3, h4, h5⟩, h6⟩; dsimp only at h1 h2 h6; subst h1 h2 h6; try dsimp only [KSo.at_, KSo.limit, KSo.failed, KSo.bytes, KSo.mk])
      | (refine OE.bind (oe_BR_openBlock hfg hN (by omega) (by omega) (by omega) _ _ _) ?_; rintro ⟨_, _⟩ ⟨_, _⟩ ⟨⟨a9, L9, b9, h1, h2, h3, h4, h5⟩, h6⟩; dsimp only at h1 h2 h6; subst h1 h2 h6; try dsimp only [KSo.at_, KSo.limit, KSo.failed, KSo.bytes, KSo.mk])
      | (refine OE.bind (oe_BR_turnToElse hfg hN (by omega) (by omega) (by omega) _ _ _) ?_; rintro ⟨_, _⟩ ⟨_, _⟩ ⟨⟨a9, L9, b9, h1, h2, h3, h4, h5⟩, h6⟩; dsimp only at h1 h2 h6; subst h1 h2 h6; try dsimp only [KSo.at_, KSo.limit, KSo.failed, KSo.bytes, KSo.mk])
      | (refine OE.bind (oeL41_BR_readTable hfg hN _ _ _ _ _ _ _ _ _ _ _ (by omega) (by omega) (by omega)) ?_; rintro ⟨_, _⟩ ⟨_, _⟩ ⟨⟨a9, L9, b9, h1, h2, h3, h4, h5⟩, h6⟩; dsimp only at h1 h2 h6; subst h1 h2 h6; try dsimp only [KSo.at_, KSo.limit, KSo.failed, KSo.bytes, KSo.mk])
      | (refine OE.bind (oe_BR_readTable hfg hN (by omega) (by omega) (by omega) _ _ _) ?_; rintro ⟨_, _⟩ ⟨_, _⟩ ⟨⟨a9, L9, b9, h1, h2, h3, h4, h5⟩, h6⟩; dsimp only at h1 h2 h6; subst h1 h2 h6; try dsimp only [KSo.at_, KSo.limit, KSo.failed, KSo.bytes, KSo.mk])
      | (refine OE.bind (oe_BR_readImmediate hfg hN (by omega) (by omega) (by omega) _ _ _) ?_; rintro ⟨_, _⟩ ⟨_, _⟩ ⟨⟨a9, L9, b9, h1, h2, h3, h4, h5⟩, h6⟩; dsimp only at h1 h2 h6; subst h1 h2 h6; try dsimp only [KSo.at_, KSo.limit, KSo.failed, KSo.bytes, KSo.mk])
      | (refine OE.bind (oe_BR_readInstruction hfg hN (by omega) (by omega) (by omega) _ _ _) ?_; rintro ⟨_, _⟩ ⟨_, _⟩ ⟨⟨a9, L9, b9, h1, h2, h3, h4, h5⟩, h6⟩; dsimp only at h1 h2 h6; subst h1 h2 h6; try dsimp only [KSo.at_, KSo.limit, KSo.failed, KSo.bytes, KSo.mk])
      | (refine OE.bind (oeL52_BR_readLocals hfg hN _ _ _ _ _ _ _ _ _ _ _ _ _) ?_; rintro _ _ h1; subst h1; try dsimp only [KSo.at_, KSo.limit, KSo.failed, KSo.bytes, KSo.mk])
      | (refine OE.bind (oeL18_BR_readLocals hfg hN _ _ _ _ _ _ _ _ _ _ _ _ (by omega) (by omega) (by omega)) ?_; rintro ⟨_, _⟩ ⟨_, _⟩ ⟨⟨a9, L9, b9, h1, h2, h3, h4, h5⟩, h6⟩; dsimp only at h1 h2 h6; subst h1 h2 h6; try dsimp only [KSo.at_, KSo.limit, KSo.failed, KSo.bytes, KSo.mk])
      | (refine OE.bind (oe_BR_readLocals hfg hN (by omega) (by omega) (by omega) _ _) ?_; rintro ⟨_, _⟩ ⟨_, _⟩ ⟨⟨a9, L9, b9, h1, h2, h3, h4, h5⟩, h6⟩; dsimp only at h1 h2 h6; subst h1 h2 h6; try dsimp only [KSo.at_, KSo.limit, KSo.failed, KSo.bytes, KSo.mk])
      | (refine OE.bind (oeL73_BR_readAll hfg hN _ _ _ _ _ _ _ _ _ (by omega) (by omega) (by omega)) ?_; rintro ⟨_, _⟩ ⟨_, _⟩ ⟨⟨a9, L9, b9, h1, h2, h3, h4, h5⟩, h6⟩; dsimp only at h1 h2 h6; subst h1 h2 h6; try dsimp only [KSo.at_, KSo.limit, KSo.failed, KSo.bytes, KSo.mk])
      | (refine OE.bind (oeL16_BR_readAll hfg hN _ _ _ _ _ _ _ _ _ _ (by omega) (by omega) (by omega)) ?_; rintro ⟨_, _⟩ ⟨_, _⟩ ⟨⟨a9, L9, b9, h1, h2, h3, h4, h5⟩, h6⟩; dsimp only at h1 h2 h6; subst h1 h2 h6; try dsimp only [KSo.at_, KSo.limit, KSo.failed, KSo.bytes, KSo.mk])
      | (refine OE.bind (oe_BR_readAll hfg hN (by omega) (by omega) (by omega) _ _ _ _ _) ?_; rintro ⟨_, _⟩ ⟨_, _⟩ ⟨⟨a9, L9, b9, h1, h2, h3, h4, h5⟩, h6⟩; dsimp only at h1 h2 h6; subst h1 h2 h6; try dsimp only [KSo.at_, KSo.limit, KSo.failed, KSo.bytes, KSo.mk])
      | (refine OE.bind (oe_Rd_readCustom hfg hN (by omega) (by omega) (by omega)) ?_; rintro _ _ ⟨a9, L9, b9, h1, h2, h3, h4, h5⟩; subst h1 h2; try dsimp only [KSo.at_, KSo.limit, KSo.failed, KSo.bytes, KSo.mk])
      | (refine OE.bind (oeL62_Rd_readTypes hfg hN _ _ _ _ _ _ _ (by omega) (by omega) (by omega)) ?_; rintro ⟨_, _⟩ ⟨_, _⟩ ⟨⟨a9, L9, b9, h1, h2, h3, h4, h5⟩, h6⟩; dsimp only at h1 h2 h6; subst h1 h2 h6; try dsimp only [KSo.at_, KSo.limit, KSo.failed, KSo.bytes, KSo.mk])
      | (refine OE.bind (oeL20_Rd_readTypes hfg hN _ _ _ _ _ _ (by omega) (by omega) (by omega)) ?_; rintro ⟨_, _⟩ ⟨_, _⟩ ⟨⟨a9, L9, b9, h1, h2, h3, h4, h5⟩, h6⟩; dsimp only at h1 h2 h6; subst h1 h2 h6; try dsimp only [KSo.at_, KSo.limit, KSo.failed, KSo.bytes, KSo.mk])
      | (refine OE.bind (oe_Rd_readTypes hfg hN (by omega) (by omega) (by omega) _) ?_; rintro ⟨_, _⟩ ⟨_, _⟩ ⟨⟨a9, L9, b9, h1, h2, h3, h4, h5⟩, h6⟩; dsimp only at h1 h2 h6; subst h1 h2 h6; try dsimp only [KSo.at_, KSo.limit, KSo.failed, KSo.bytes, KSo.mk])
      | (refine OE.bind (oeL20_Rd_readFunctions hfg hN _ _ _ _ _ _ (by omega) (by omega) (by omega)) ?_; rintro ⟨_, _⟩ ⟨_, _⟩ ⟨⟨a9, L9, b9, h1, h2, h3, h4, h5⟩, h6⟩; dsimp only at h1 h2 h6; subst h1 h2 h6; try dsimp only [KSo.at_, KSo.limit, KSo.failed, KSo.bytes, KSo.mk])
      | (refine OE.bind (oe_Rd_readFunctions hfg hN (by omega) (by omega) (by omega) _) ?_; rintro ⟨_, _⟩ ⟨_, _⟩ ⟨⟨a9, L9, b9, h1, h2, h3, h4, h5⟩, h6⟩; dsimp only at h1 h2 h6; subst h1 h2 h6; try dsimp only [KSo.at_, KSo.limit, KSo.failed, KSo.bytes, KSo.mk])
      | (refine OE.bind (oe_Rd_readMemories hfg hN (by omega) (by omega) (by omega) _) ?_; rintro ⟨_, _⟩ ⟨_, _⟩ ⟨⟨a9, L9, b9, h1, h2, h3, h4, h5⟩, h6⟩; dsimp only at h1 h2 h6; subst h1 h2 h6; try dsimp only [KSo.at_, KSo.limit, KSo.failed, KSo.bytes, KSo.mk])
      | (refine OE.bind (oe_Rd_readInitialValue hfg hN (by omega) (by omega) (by omega) _ _) ?_; rintro ⟨_, _⟩ ⟨_, _⟩ ⟨⟨a9, L9, b9, h1, h2, h3, h4, h5⟩, h6⟩; dsimp only at h1 h2 h6; subst h1 h2 h6; try dsimp only [KSo.at_, KSo.limit, KSo.failed, KSo.bytes, KSo.mk])
      | (refine OE.bind (oeL20_Rd_readGlobals hfg hN _ _ _ _ _ _ (by omega) (by omega) (by omega)) ?_; rintro ⟨_, _⟩ ⟨_, _⟩ ⟨⟨a9, L9, b9, h1, h2, h3, h4, h5⟩, h6⟩; dsimp only at h1 h2 h6; subst h1 h2 h6; try dsimp only [KSo.at_, KSo.limit, KSo.failed, KSo.bytes, KSo.mk])
      | (refine OE.bind (oe_Rd_readGlobals hfg hN (by omega) (by omega) (by omega) _) ?_; rintro ⟨_, _⟩ ⟨_, _⟩ ⟨⟨a9, L9, b9, h1, h2, h3, h4, h5⟩, h6⟩; dsimp only at h1 h2 h6; subst h1 h2 h6; try dsimp only [KSo.at_, KSo.limit, KSo.failed, KSo.bytes, KSo.mk])
      | (refine OE.bind (oeL52_Rd_readExports hfg hN _ _ _ _ _ _ _ (by omega) (by omega) (by omega)) ?_; rintro ⟨_, _⟩ ⟨_, _⟩ ⟨⟨a9, L9, b9, h1, h2, h3, h4, h5⟩, h6⟩; dsimp only at h1 h2 h6; subst h1 h2 h6; try dsimp only [KSo.at_, KSo.limit, KSo.failed, KSo.bytes, KSo.mk])
      | (refine OE.same (fun _ => ?_)))
set_option maxRecDepth 20000 in
theorem oe_Rd_readExports (hfg : ∀ k : Nat, (k : Int) < N → f k = g k) (hN : N ≤ 2000) {a L : Int} {b : Bool} (h0 : 0 ≤ a) (h1 : 0 ≤ L) (h2 : L ≤ N) (zEx : KEx) : OE (Rp N f g) (f_Rd_readExports fu (KSo.mk a L b f) zEx) (f_Rd_readExports fu (KSo.mk a L b g) zEx) := by
  unfold f_Rd_readExports
  simp only [jp, KSo.at_, KSo.limit, KSo.failed, KSo.bytes, KSo.mk]
  repeat' (first
    | (refine OE.ite (fun _ => ?_) (fun _ => ?_))
    | exact OE.bad
    | exact OE.ret ⟨(sq_mk (by omega) (by omega) (by omega)), rfl⟩
    | exact OE.ret (sq_mk (by omega) (by omega) (by omega))
    | exact OE.ret rfl
    | (refine OE.bind (oe_So_octet hfg hN (by omega) (by omega) (by omega)) ?_; rintro ⟨_, _⟩ ⟨_, _⟩ ⟨⟨a9, L9, b9, h1, h2, h3, h4, h5⟩, h6⟩; dsimp only at h1 h2 h6; subst h1 h2 h6; try dsimp only [KSo.at_, KSo.limit, KSo.failed, KSo.bytes, KSo.mk])
    | (refine OE.bind (oe_So_fail hfg hN (by omega) (by omega) (by omega)) ?_; rintro _ _ ⟨a9, L9, b9, h1, h2, h3, h4, h5⟩; subst h1 h2; try dsimp only [KSo.at_, KSo.limit, KSo.failed, KSo.bytes, KSo.mk])
    | (refine OE.bind (oe_So_hasFailed hfg hN (by omega) (by omega) (by omega)) ?_; rintro _ _ h1; subst h1; try dsimp only [KSo.at_, KSo.limit, KSo.failed, KSo.bytes, KSo.mk])
    | (refine OE.bind (oe_So_hasMore hfg hN (by omega) (by omega) (by omega)) ?_; rintro _ _ h1; subst h1; try dsimp only [KSo.at_, KSo.limit, KSo.failed, KSo.bytes, KSo.mk])
    | (refine OE.bind (oe_So_require hfg hN (by omega) (by omega) (by omega) _) ?_; rintro _ _ ⟨a9, L9, b9, h1, h2, h3, h4, h5⟩; subst h1 h2; try dsimp only [KSo.at_, KSo.limit, KSo.failed, KSo.bytes, KSo.mk])
    | (refine OE.bind (oe_So_flag hfg hN (by omega) (by omega) (by omega)) ?_; rintro ⟨_, _⟩ ⟨_, _⟩ ⟨⟨a9, L9, b9, h1, h2, h3, h4, h5⟩, h6⟩; dsimp only at h1 h2 h6; subst h1 h2 h6; try dsimp only [KSo.at_, KSo.limit, KSo.failed, KSo.bytes, KSo.mk])
    | (refine OE.bind (oe_So_valueType hfg hN (by omega) (by omega) (by omega)) ?_; rintro ⟨_, _⟩ ⟨_, _⟩ ⟨⟨a9, L9, b9, h1, h2, h3, h4, h5⟩, h6⟩; dsimp only at h1 h2 h6; subst h1 h2 h6; try dsimp only [KSo.at_, KSo.limit, KSo.failed, KSo.bytes, KSo.mk])
    | (refine OE.bind (oe_So_left hfg hN (by omega) (by omega) (by omega)) ?_; rintro _ _ h1; subst h1; try dsimp only [KSo.at_, KSo.limit, KSo.failed, KSo.bytes, KSo.mk])
    | (refine OE.bind (oe_So_skipRest hfg hN (by omega) (by omega) (by omega)) ?_; rintro _ _ ⟨a9, L9, b9, h1, h2, h3, h4, h5⟩; subst h1 h2; try dsimp only [KSo.at_, KSo.limit, KSo.failed, KSo.bytes, KSo.mk])
    | (refine OE.bind (oe_So_widen (by omega) (by omega) (by omega)) ?_; rintro _ _ ⟨a9, L9, b9, h1, h2, h3, h4, h5⟩; subst h1 h2; try dsimp only [KSo.at_, KSo.limit, KSo.failed, KSo.bytes, KSo.mk])
    | (refine OE.bind (oe_uns hfg hN (by omega) (by omega) (by omega) _) ?_; rintro ⟨_, _⟩ ⟨_, _⟩ ⟨⟨a9, L9, b9, h1, h2, h3, h4, h5⟩, h6⟩; dsimp only at h1 h2 h6; subst h1 h2 h6; try dsimp only [KSo.at_, KSo.limit, KSo.failed, KSo.bytes, KSo.mk])
    | (refine OE.bind (oe_nar hfg hN (by omega) (by omega) (by omega)) ?_; rintro ⟨_, _⟩ ⟨_, _⟩ ⟨⟨a9, L9, b9, h1, h2, h3, h4, h5⟩, h6, h7, h8⟩; dsimp only at h1 h2 h6 h7 h8; subst h1 h2 h6; try dsimp only [KSo.at_, KSo.limit, KSo.failed, KSo.bytes, KSo.mk])
    | (refine OE.bind (oeL5_So_signed hfg hN _ _ _ _ _ _ _ (by omega) (by omega) (by omega)) ?_; rintro ⟨_, _⟩ ⟨_, _⟩ ⟨⟨a9, L9, b9, h1, h2, h3, h4, h5⟩, h6⟩; dsimp only at h1 h2 h6; subst h1 h2 h6; try dsimp only [KSo.at_, KSo.limit, KSo.failed, KSo.bytes, KSo.mk])
    | (refine OE.bind (oe_So_signed hfg hN (by omega) (by omega) (by omega) _) ?_; rintro ⟨_, _⟩ ⟨_, _⟩ ⟨⟨a9, L9, b9, h1, h2, h3, h4, h5⟩, h6⟩; dsimp only at h1 h2 h6; subst h1 h2 h6; try dsimp only [KSo.at_, KSo.limit, KSo.failed, KSo.bytes, KSo.mk])
    | (refine OE.bind (oe_BR_openBlock hfg hN (by omega) (by omega) (by omega) _ _ _) ?_; rintro ⟨_, _⟩ ⟨_, _⟩ ⟨⟨a9, L9, b9, h1, h2, h3, h4, h5⟩, h6⟩; dsimp only at h1 h2 h6; subst h1 h2 h6; try dsimp only [KSo.at_, KSo.limit, KSo.failed, KSo.bytes, KSo.mk])
    | (refine OE.bind (oe_BR_turnToElse hfg hN (by omega) (by omega) (by omega) _ _ _) ?_; rintro ⟨_, _⟩ ⟨_, _⟩ ⟨⟨a9, L9, b9, h1, h2, h3, h4, h5⟩, h6⟩; dsimp only at h1 h2 h6; subst h1 h2 h6; try dsimp only [KSo.at_, KSo.limit, KSo.failed, KSo.bytes, KSo.mk])
    | (refine OE.bind (oeL41_BR_readTable hfg hN _ _ _ _ _ _ _ _ _ _ _ (by omega) (by omega) (by omega)) ?_; rintro ⟨_, _⟩ ⟨_, _⟩ ⟨⟨a9, L9, b9, h1, h2, h3, h4, h5⟩, h6⟩; dsimp only at h1 h2 h6; subst h1 h2 h6; try dsimp only [KSo.at_, KSo.limit, KSo.failed, KSo.bytes, KSo.mk])
    | (refine OE.bind (oe_BR_readTable hfg hN (by omega) (by omega) (by omega) _ _ _) ?_; rintro ⟨_, _⟩ ⟨_, _⟩ ⟨⟨a9, L9, b9, h1, h2, h3, h4, h5⟩, h6⟩; dsimp only at h1 h2 h6; subst h1 h2 h6; try dsimp only [KSo.at_, KSo.limit, KSo.failed, KSo.bytes, KSo.mk])
    | (refine OE.bind (oe_BR_readImmediate hfg hN (by omega) (by omega) (by omega) _ _ _) ?_; rintro ⟨_, _⟩ ⟨_, _⟩ ⟨⟨a9, L9, b9, h1, h2, h3, h4, h5⟩, h6⟩; dsimp only at h1 h2 h6; subst h1 h2 h6; try dsimp only [KSo.at_, KSo.limit, KSo.failed, KSo.bytes, KSo.mk])
    | (refine OE.bind (oe_BR_readInstruction hfg hN (by omega) (by omega) (by omega) _ _ _) ?_; rintro ⟨_, _⟩ ⟨_, _⟩ ⟨⟨a9, L9, b9, h1, h2, h3, h4, h5⟩, h6⟩; dsimp only at h1 h2 h6; subst h1 h2 h6; try dsimp only [KSo.at_, KSo.limit, KSo.failed, KSo.bytes, KSo.mk])
    | (refine OE.bind (oeL52_BR_readLocals hfg hN _ _ _ _ _ _ _ _ _ _ _ _ _) ?_; rintro _ _ h1; subst h1; try dsimp only [KSo.at_, KSo.limit, KSo.failed, KSo.bytes, KSo.mk])
    | (refine OE.bind (oeL18_BR_readLocals hfg hN _ _ _ _ _ _ _ _ _ _ _ _ (by omega) (by omega) (by omega)) ?_; rintro ⟨_, _⟩ ⟨_, _⟩ ⟨⟨a9, L9, b9, h1, h2, h3, h4, h5⟩, h6⟩; dsimp only at h1 h2 h6; subst h1 h2 h6; try dsimp only [KSo.at_, KSo.limit, KSo.failed, KSo.bytes, KSo.mk])
    | (refine OE.bind (oe_BR_readLocals hfg hN (by omega) (by omega) (by omega) _ _) ?_; rintro ⟨_, _⟩ ⟨_, _⟩ ⟨⟨a9, L9, b9, h1, h2, h3, h4, h5⟩, h6⟩; dsimp only at h1 h2 h6; subst h1 h2 h6; try dsimp only [KSo.at_, KSo.limit, KSo.failed, KSo.bytes, KSo.mk])
    | (refine OE.bind (oeL73_BR_readAll hfg hN _ _ _ _ _ _ _ _ _ (by omega) (by omega) (by omega)) ?_; rintro ⟨_, _⟩ ⟨_, _⟩ ⟨⟨a9, L9, b9, h1, h2, h3, h4, h5⟩, h6⟩; dsimp only at h1 h2 h6; subst h1 h2 h6; try dsimp only [KSo.at_, KSo.limit, KSo.failed, KSo.bytes, KSo.mk])
    | (refine OE.bind (oeL16_BR_readAll hfg hN _ _ _ _ _ _ _ _ _ _ (by omega) (by omega) (by omega)) ?_; rintro ⟨_, _⟩ ⟨_, _⟩ ⟨⟨a9, L9, b9, h1, h2, h3, h4, h5⟩, h6⟩; dsimp only at h1 h2 h6; subst h1 h2 h6; try dsimp only [KSo.at_, KSo.limit, KSo.failed, KSo.bytes, KSo.mk])
    | (refine OE.bind (oe_BR_readAll hfg hN (by omega) (by omega) (by omega) _ _ _ _ _) ?_; rintro ⟨_, _⟩ ⟨_, _⟩ ⟨⟨a9, L9, b9, h1, h2, h3, h4, h5⟩, h6⟩; dsimp only at h1 h2 h6; subst h1 h2 h6; try dsimp only [KSo.at_, KSo.limit, KSo.failed, KSo.bytes, KSo.mk])
    | (refine OE.bind (oe_Rd_readCustom hfg hN (by omega) (by omega) (by omega)) ?_; rintro _ _ ⟨a9, L9, b9, h1, h2, h3, h4, h5⟩; subst h1 h2; try dsimp only [KSo.at_, KSo.limit, KSo.failed, KSo.bytes, KSo.mk])
    | (refine OE.bind (oeL62_Rd_readTypes hfg hN _ _ _ _ _ _ _ (by omega) (by omega) (by omega)) ?_; rintro ⟨_, _⟩ ⟨_, _⟩ ⟨⟨a9, L9, b9, h1, h2, h3, h4, h5⟩, h6⟩; dsimp only at h1 h2 h6; subst h1 h2 h6; try dsimp only [KSo.at_, KSo.limit, KSo.failed, KSo.bytes, KSo.mk])
    | (refine OE.bind (oeL20_Rd_readTypes hfg hN _ _ _ _ _ _ (by omega) (by omega) (by omega)) ?_; rintro ⟨_, _⟩ ⟨_, _⟩ ⟨⟨a9, L9, b9, h1, h2, h3, h4, h5⟩, h6⟩; dsimp only at h1 h2 h6; subst h1 h2 h6; try dsimp only [KSo.at_, KSo.limit, KSo.failed, KSo.bytes, KSo.mk])
    | (refine OE.bind (oe_Rd_readTypes hfg hN (by omega) (by omega) (by omega) _) ?_; rintro ⟨_, _⟩ ⟨_, _⟩ ⟨⟨a9, L9, b9, h1, h2, h3, h4, h5⟩, h6⟩; dsimp only at h1 h2 h6; subst h1 h2 h6; try dsimp only [KSo.at_, KSo.limit, KSo.failed, KSo.bytes, KSo.mk])
    | (refine OE.bind (oeL20_Rd_readFunctions hfg hN _ _ _ _ _ _ (by omega) (by omega) (by omega)) ?_; rintro ⟨_, _⟩ ⟨_, _⟩ ⟨⟨a9, L9, b9, h1, h2, h3, h4, h5⟩, h6⟩; dsimp only at h1 h2 h6; subst h1 h2 h6; try dsimp only [KSo.at_, KSo.limit, KSo.failed, KSo.bytes, KSo.mk])
    | (refine OE.bind (oe_Rd_readFunctions hfg hN (by omega) (by omega) (by omega) _) ?_; rintro ⟨_, _⟩ ⟨_, _⟩ ⟨⟨a9, L9, b9, h1, h2, h3, h4, h5⟩, h6⟩; dsimp only at h1 h2 h6; subst h1 h2 h6; try dsimp only [KSo.at_, KSo.limit, KSo.failed, KSo.bytes, KSo.mk])
    | (refine OE.bind (oe_Rd_readMemories hfg hN (by omega) (by omega) (by omega) _) ?_; rintro ⟨_, _⟩ ⟨_, _⟩ ⟨⟨a9, L9, b9, h1, h2, h3, h4, h5⟩, h6⟩; dsimp only at h1 h2 h6; subst h1 h2 h6; try dsimp only [KSo.at_, KSo.limit, KSo.failed, KSo.bytes, KSo.mk])
    | (refine OE.bind (oe_Rd_readInitialValue hfg hN (by omega) (by omega) (by omega) _ _) ?_; rintro ⟨_, _⟩ ⟨_, _⟩ ⟨⟨a9, L9, b9, h1, h2, h3, h4, h5⟩, h6⟩; dsimp only at h1 h2 h6; subst h1 h2 h6; try dsimp only [KSo.at_, KSo.limit, KSo.failed, KSo.bytes, KSo.mk])
    | (refine OE.bind (oeL20_Rd_readGlobals hfg hN _ _ _ _ _ _ (by omega) (by omega) (by omega)) ?_; rintro ⟨_, _⟩ ⟨_, _⟩ ⟨⟨a9, L9, b9, h1, h2, h3, h4, h5⟩, h6⟩; dsimp only at h1 h2 h6; subst h1 h2 h6; try dsimp only [KSo.at_, KSo.limit, KSo.failed, KSo.bytes, KSo.mk])
    | (refine OE.bind (oe_Rd_readGlobals hfg hN (by omega) (by omega) (by omega) _) ?_; rintro ⟨_, _⟩ ⟨_, _⟩ ⟨⟨a9, L9, b9, h1, h2, h3, h4, h5⟩, h6⟩; dsimp only at h1 h2 h6; subst h1 h2 h6; try dsimp only [KSo.at_, KSo.limit, KSo.failed, KSo.bytes, KSo.mk])
    | (refine OE.bind (oeL52_Rd_readExports hfg hN _ _ _ _ _ _ _ (by omega) (by omega) (by omega)) ?_; rintro ⟨_, _⟩ ⟨_, _⟩ ⟨⟨a9, L9, b9, h1, h2, h3, h4, h5⟩, h6⟩; dsimp only at h1 h2 h6; subst h1 h2 h6; try dsimp only [KSo.at_, KSo.limit, KSo.failed, KSo.bytes, KSo.mk])
    | (refine OE.bind (oeL25_Rd_readExports hfg hN _ _ _ _ _ _ (by omega) (by omega) (by omega)) ?_; rintro ⟨_, _⟩ ⟨_, _⟩ ⟨⟨a9, L9, b9, h1, h2, h3, h4, h5⟩, h6⟩; dsimp only at h1 h2 h6; subst h1 h2 h6; try dsimp only [KSo.at_, KSo.limit, KSo.failed, KSo.bytes, KSo.mk])
    | (refine OE.same (fun _ => ?_)))
set_option maxRecDepth 20000 in
theorem oe_Rd_readSection (hfg : ∀ k : Nat, (k : Int) < N → f k = g k) (hN : N ≤ 2000) {a L : Int} {b : Bool} (h0 : 0 ≤ a) (h1 : 0 ≤ L) (h2 : L ≤ N) (zCo : KCo) (zCt : KCt) (zEx : KEx) (zW1 : KW1) (zW3 : KW3) (zWj : KWj) (zW5 : KW5) (zW6 : KW6) (zBR : KBR) (zRd : KRd) (v_id : Int) : OE (Rp N f g) (f_Rd_readSection fu (KSo.mk a L b f) zCo zCt zEx zW1 zW3 zWj zW5 zW6 zBR zRd v_id) (f_Rd_readSection fu (KSo.mk a L b g) zCo zCt zEx zW1 zW3 zWj zW5 zW6 zBR zRd v_id) := by
  unfold f_Rd_readSection
  simp only [jp, KSo.at_, KSo.limit, KSo.failed, KSo.bytes, KSo.mk]
  repeat' (first
    | (refine OE.ite (fun _ => ?_) (fun _ => ?_))
    | exact OE.bad
    | exact OE.ret ⟨(sq_mk (by omega) (by omega) (by omega)), rfl⟩
    | exact OE.ret (sq_mk (by omega) (by omega) (by omega))
    | exact OE.ret rfl
    | (refine OE.bind (oe_So_octet hfg hN (by omega) (by omega) (by omega)) ?_; rintro ⟨_, _⟩ ⟨_, _⟩ ⟨⟨a9, L9, b9, h1, h2, h3, h4, h5⟩, h6⟩; dsimp only at h1 h2 h6; subst h1 h2 h6; try dsimp only [KSo.at_, KSo.limit, KSo.failed, KSo.bytes, KSo.mk])
    | (refine OE.bind (oe_So_fail hfg hN (by omega) (by omega) (by omega)) ?_; rintro _ _ ⟨a9, L9, b9, h1, h2, h3, h4, h5⟩; subst h1 h2; try dsimp only [KSo.at_, KSo.limit, KSo.failed, KSo.bytes, KSo.mk])
    | (refine OE.bind (oe_So_hasFailed hfg hN (by omega) (by omega) (by omega)) ?_; rintro _ _ h1; subst h1; try dsimp only [KSo.at_, KSo.limit, KSo.failed, KSo.bytes, KSo.mk])
    | (refine OE.bind (oe_So_hasMore hfg hN (by omega) (by omega) (by omega)) ?_; rintro _ _ h1; subst h1; try dsimp only [KSo.at_, KSo.limit, KSo.failed, KSo.bytes, KSo.mk])
    | (refine OE.bind (oe_So_require hfg hN (by omega) (by omega) (by omega) _) ?_; rintro _ _ ⟨a9, L9, b9, h1, h2, h3, h4, h5⟩; subst h1 h2; try dsimp only [KSo.at_, KSo.limit, KSo.failed, KSo.bytes, KSo.mk])
    | (refine OE.bind (oe_So_flag hfg hN (by omega) (by omega) (by omega)) ?_; rintro ⟨_, _⟩ ⟨_, _⟩ ⟨⟨a9, L9, b9, h1, h2, h3, h4, h5⟩, h6⟩; dsimp only at h1 h2 h6; subst h1 h2 h6; try dsimp only [KSo.at_, KSo.limit, KSo.failed, KSo.bytes, KSo.mk])
    | (refine OE.bind (oe_So_valueType hfg hN (by omega) (by omega) (by omega)) ?_; rintro ⟨_, _⟩ ⟨_, _⟩ ⟨⟨a9, L9, b9, h1, h2, h3, h4, h5⟩, h6⟩; dsimp only at h1 h2 h6; subst h1 h2 h6; try dsimp only [KSo.at_, KSo.limit, KSo.failed, KSo.bytes, KSo.mk])
    | (refine OE.bind (oe_So_left hfg hN (by omega) (by omega) (by omega)) ?_; rintro _ _ h1; subst h1; try dsimp only [KSo.at_, KSo.limit, KSo.failed, KSo.bytes, KSo.mk])
    | (refine OE.bind (oe_So_skipRest hfg hN (by omega) (by omega) (by omega)) ?_; rintro _ _ ⟨a9, L9, b9, h1, h2, h3, h4, h5⟩; subst h1 h2; try dsimp only [KSo.at_, KSo.limit, KSo.failed, KSo.bytes, KSo.mk])
    | (refine OE.bind (oe_So_widen (by omega) (by omega) (by omega)) ?_; rintro _ _ ⟨a9, L9, b9, h1, h2, h3, h4, h5⟩; subst h1 h2; try dsimp only [KSo.at_, KSo.limit, KSo.failed, KSo.bytes, KSo.mk])
    | (refine OE.bind (oe_uns hfg hN (by omega) (by omega) (by omega) _) ?_; rintro ⟨_, _⟩ ⟨_, _⟩ ⟨⟨a9, L9, b9, h1, h2, h3, h4, h5⟩, h6⟩; dsimp only at h1 h2 h6; subst h1 h2 h6; try dsimp only [KSo.at_, KSo.limit, KSo.failed, KSo.bytes, KSo.mk])
    | (refine OE.bind (oe_nar hfg hN (by omega) (by omega) (by omega)) ?_; rintro ⟨_, _⟩ ⟨_, _⟩ ⟨⟨a9, L9, b9, h1, h2, h3, h4, h5⟩, h6, h7, h8⟩; dsimp only at h1 h2 h6 h7 h8; subst h1 h2 h6; try dsimp only [KSo.at_, KSo.limit, KSo.failed, KSo.bytes, KSo.mk])
    | (refine OE.bind (oeL5_So_signed hfg hN _ _ _ _ _ _ _ (by omega) (by omega) (by omega)) ?_; rintro ⟨_, _⟩ ⟨_, _⟩ ⟨⟨a9, L9, b9, h1, h2, h3, h4, h5⟩, h6⟩; dsimp only at h1 h2 h6; subst h1 h2 h6; try dsimp only [KSo.at_, KSo.limit, KSo.failed, KSo.bytes, KSo.mk])
    | (refine OE.bind (oe_So_signed hfg hN (by omega) (by omega) (by omega) _) ?_; rintro ⟨_, _⟩ ⟨_, _⟩ ⟨⟨a9, L9, b9, h1, h2, h3, h4, h5⟩, h6⟩; dsimp only at h1 h2 h6; subst h1 h2 h6; try dsimp only [KSo.at_, KSo.limit, KSo.failed, KSo.bytes, KSo.mk])
    | (refine OE.bind (oe_BR_openBlock hfg hN (by omega) (by omega) (by omega) _ _ _) ?_; rintro ⟨_, _⟩ ⟨_, _⟩ ⟨⟨a9, L9, b9, h1, h2, h3, h4, h5⟩, h6⟩; dsimp only at h1 h2 h6; subst h1 h2 h6; try dsimp only [KSo.at_, KSo.limit, KSo.failed, KSo.bytes, KSo.mk])
    | (refine OE.bind (oe_BR_turnToElse hfg hN (by omega) (by omega) (by omega) _ _ _) ?_; rintro ⟨_, _⟩ ⟨_, _⟩ ⟨⟨a9, L9, b9, h1, h2, h3, h4, h5⟩, h6⟩; dsimp only at h1 h2 h6; subst h1 h2 h6; try dsimp only [KSo.at_, KSo.limit, KSo.failed, KSo.bytes, KSo.mk])
    | (refine OE.bind (oeL41_BR_readTable hfg hN _ _ _ _ _ _ _ _ _ _ _ (by omega) (by omega) (by omega)) ?_; rintro ⟨_, _⟩ ⟨_, _⟩ ⟨⟨a9, L9, b9, h1, h2, h3, h4, h5⟩, h6⟩; dsimp only at h1 h2 h6; subst h1 h2 h6; try dsimp only [KSo.at_, KSo.limit, KSo.failed, KSo.bytes, KSo.mk])
    | (refine OE.bind (oe_BR_readTable hfg hN (by omega) (by omega) (by omega) _ _ _) ?_; rintro ⟨_, _⟩ ⟨_, _⟩ ⟨⟨a9, L9, b9, h1, h2, h3, h4, h5⟩, h6⟩; dsimp only at h1 h2 h6; subst h1 h2 h6; try dsimp only [KSo.at_, KSo.limit, KSo.failed, KSo.bytes, KSo.mk])
    | (refine OE.bind (oe_BR_readImmediate hfg hN (by omega) (by omega) (by omega) _ _ _) ?_; rintro ⟨_, _⟩ ⟨_, _⟩ ⟨⟨a9, L9, b9, h1, h2, h3, h4, h5⟩, h6⟩; dsimp only at h1 h2 h6; subst h1 h2 h6; try dsimp only [KSo.at_, KSo.limit, KSo.failed, KSo.bytes, KSo.mk])
    | (refine OE.bind (oe_BR_readInstruction hfg hN (by omega) (by omega) (by omega) _ _ _) ?_; rintro ⟨_, _⟩ ⟨_, _⟩ ⟨⟨a9, L9, b9, h1, h2, h3, h4, h5⟩, h6⟩; dsimp only at h1 h2 h6; subst h1 h2 h6; try dsimp only [KSo.at_, KSo.limit, KSo.failed, KSo.bytes, KSo.mk])
    | (refine OE.bind (oeL52_BR_readLocals hfg hN _ _ _ _ _ _ _ _ _ _ _ _ _) ?_; rintro _ _ h1; subst h1; try dsimp only [KSo.at_, KSo.limit, KSo.failed, KSo.bytes, KSo.mk])
    | (refine OE.bind (oeL18_BR_readLocals hfg hN _ _ _ _ _ _ _ _ _ _ _ _ (by omega) (by omega) (by omega)) ?_; rintro ⟨_, _⟩ ⟨_, _⟩ ⟨⟨a9, L9, b9, h1, h2, h3, h4, h5⟩, h6⟩; dsimp only at h1 h2 h6; subst h1 h2 h6; try dsimp only [KSo.at_, KSo.limit, KSo.failed, KSo.bytes, KSo.mk])
    | (refine OE.bind (oe_BR_readLocals hfg hN (by omega) (by omega) (by omega) _ _) ?_; rintro ⟨_, _⟩ ⟨_, _⟩ ⟨⟨a9, L9, b9, h1, h2, h3, h4, h5⟩, h6⟩; dsimp only at h1 h2 h6; subst h1 h2 h6; try dsimp only [KSo.at_, KSo.limit, KSo.failed, KSo.bytes, KSo.mk])
    | (refine OE.bind (oeL73_BR_readAll hfg hN _ _ _ _ _ _ _ _ _ (by omega) (by omega) (by omega)) ?_; rintro ⟨_, _⟩ ⟨_, _⟩ ⟨⟨a9, L9, b9, h1, h2, h3, h4, h5⟩, h6⟩; dsimp only at h1 h2 h6; subst h1 h2 h6; try dsimp only [KSo.at_, KSo.limit, KSo.failed, KSo.bytes, KSo.mk])
    | (refine OE.bind (oeL16_BR_readAll hfg hN _ _ _ _ _ _ _ _ _ _ (by omega) (by omega) (by omega)) ?_; rintro ⟨_, _⟩ ⟨_, _⟩ ⟨⟨a9, L9, b9, h1, h2, h3, h4, h5⟩, h6⟩; dsimp only at h1 h2 h6; subst h1 h2 h6; try dsimp only [KSo.at_, KSo.limit, KSo.failed, KSo.bytes, KSo.mk])
    | (refine OE.bind (oe_BR_readAll hfg hN (by omega) (by omega) (by omega) _ _ _ _ _) ?_; rintro ⟨_, _⟩ ⟨_, _⟩ ⟨⟨a9, L9, b9, h1, h2, h3, h4, h5⟩, h6⟩; dsimp only at h1 h2 h6; subst h1 h2 h6; try dsimp only [KSo.at_, KSo.limit, KSo.failed, KSo.bytes, KSo.mk])
    | (refine OE.bind (oe_Rd_readCustom hfg hN (by omega) (by omega) (by omega)) ?_; rintro _ _ ⟨a9, L9, b9, h1, h2, h3, h4, h5⟩; subst h1 h2; try dsimp only [KSo.at_, KSo.limit, KSo.failed, KSo.bytes, KSo.mk])
    | (refine OE.bind (oeL62_Rd_readTypes hfg hN _ _ _ _ _ _ _ (by omega) (by omega) (by omega)) ?_; rintro ⟨_, _⟩ ⟨_, _⟩ ⟨⟨a9, L9, b9, h1, h2, h3, h4, h5⟩, h6⟩; dsimp only at h1 h2 h6; subst h1 h2 h6; try dsimp only [KSo.at_, KSo.limit, KSo.failed, KSo.bytes, KSo.mk])
    | (refine OE.bind (oeL20_Rd_readTypes hfg hN _ _ _ _ _ _ (by omega) (by omega) (by omega)) ?_; rintro ⟨_, _⟩ ⟨_, _⟩ ⟨⟨a9, L9, b9, h1, h2, h3, h4, h5⟩, h6⟩; dsimp only at h1 h2 h6; subst h1 h2 h6; try dsimp only [KSo.at_, KSo.limit, KSo.failed, KSo.bytes, KSo.mk])
    | (refine OE.bind (oe_Rd_readTypes hfg hN (by omega) (by omega) (by omega) _) ?_; rintro ⟨_, _⟩ ⟨_, _⟩ ⟨⟨a9, L9, b9, h1, h2, h3, h4, h5⟩, h6⟩; dsimp only at h1 h2 h6; subst h1 h2 h6; try dsimp only [KSo.at_, KSo.limit, KSo.failed, KSo.bytes, KSo.mk])
    | (refine OE.bind (oeL20_Rd_readFunctions hfg hN _ _ _ _ _ _ (by omega) (by omega) (by omega)) ?_; rintro ⟨_, _⟩ ⟨_, _⟩ ⟨⟨a9, L9, b9, h1, h2, h3, h4, h5⟩, h6⟩; dsimp only at h1 h2 h6; subst h1 h2 h6; try dsimp only [KSo.at_, KSo.limit, KSo.failed, KSo.bytes, KSo.mk])
    | (refine OE.bind (oe_Rd_readFunctions hfg hN (by omega) (by omega) (by omega) _) ?_; rintro ⟨_, _⟩ ⟨_, _⟩ ⟨⟨a9, L9, b9, h1, h2, h3, h4, h5⟩, h6⟩; dsimp only at h1 h2 h6; subst h1 h2 h6; try dsimp only [KSo.at_, KSo.limit, KSo.failed, KSo.bytes, KSo.mk])
    | (refine OE.bind (oe_Rd_readMemories hfg hN (by omega) (by omega) (by omega) _) ?_; rintro ⟨_, _⟩ ⟨_, _⟩ ⟨⟨a9, L9, b9, h1, h2, h3, h4, h5⟩, h6⟩; dsimp only at h1 h2 h6; subst h1 h2 h6; try dsimp only [KSo.at_, KSo.limit, KSo.failed, KSo.bytes, KSo.mk])
    | (refine OE.bind (oe_Rd_readInitialValue hfg hN (by omega) (by omega) (by omega) _ _) ?_; rintro ⟨_, _⟩ ⟨_, _⟩ ⟨⟨a9, L9, b9, h1, h2, h3, h4, h5⟩, h6⟩; dsimp only at h1 h2 h6; subst h1 h2 h6; try dsimp only [KSo.at_, KSo.limit, KSo.failed, KSo.bytes, KSo.mk])
    | (refine OE.bind (oeL20_Rd_readGlobals hfg hN _ _ _ _ _ _ (by omega) (by omega) (by omega)) ?_; rintro ⟨_, _⟩ ⟨_, _⟩ ⟨⟨a9, L9, b9, h1, h2, h3, h4, h5⟩, h6⟩; dsimp only at h1 h2 h6; subst h1 h2 h6; try dsimp only [KSo.at_, KSo.limit, KSo.failed, KSo.bytes, KSo.mk])
    | (refine OE.bind (oe_Rd_readGlobals hfg hN (by omega) (by omega) (by omega) _) ?_; rintro ⟨_, _⟩ ⟨_, _⟩ ⟨⟨a9, L9, b9, h1, h2, h3, h4, h5⟩, h6⟩; dsimp only at h1 h2 h6; subst h1 h2 h6; try dsimp only [KSo.at_, KSo.limit, KSo.failed, KSo.bytes, KSo.mk])
    | (refine OE.bind (oeL52_Rd_readExports hfg hN _ _ _ _ _ _ _ (by omega) (by omega) (by omega)) ?_; rintro ⟨_, _⟩ ⟨_, _⟩ ⟨⟨a9, L9, b9, h1, h2, h3, h4, h5⟩, h6⟩; dsimp only at h1 h2 h6; subst h1 h2 h6; try dsimp only [KSo.at_, KSo.limit, KSo.failed, KSo.bytes, KSo.mk])
    | (refine OE.bind (oeL25_Rd_readExports hfg hN _ _ _ _ _ _ (by omega) (by omega) (by omega)) ?_; rintro ⟨_, _⟩ ⟨_, _⟩ ⟨⟨a9, L9, b9, h1, h2, h3, h4, h5⟩, h6⟩; dsimp only at h1 h2 h6; subst h1 h2 h6; try dsimp only [KSo.at_, KSo.limit, KSo.failed, KSo.bytes, KSo.mk])
    | (refine OE.bind (oe_Rd_readExports hfg hN (by omega) (by omega) (by omega) _) ?_; rintro ⟨_, _⟩ ⟨_, _⟩ ⟨⟨a9, L9, b9, h1, h2, h3, h4, h5⟩, h6⟩; dsimp only at h1 h2 h6; subst h1 h2 h6; try dsimp only [KSo.at_, KSo.limit, KSo.failed, KSo.bytes, KSo.mk])
    | (refine OE.same (fun _ => ?_)))
set_option maxRecDepth 20000 in
theorem oeL63_Rd_reads (hfg : ∀ k : Nat, (k : Int) < N → f k = g k) (hN : N ≤ 2000)  : ∀ (n : Nat) (a L : Int) (b : Bool) (w1 : KCo) (w2 : KCt) (w3 : KEx) (w4 : KW1) (w5 : KW3) (w6 : KWj) (w7 : KW5) (w8 : KW6) (w9 : KBR) (w10 : KRd) (w11 : Int) (w12 : Int), 0 ≤ a → 0 ≤ L → L ≤ N → OE (Rp N f g) (L63_Rd_reads fu  n (KSo.mk a L b f) w1 w2 w3 w4 w5 w6 w7 w8 w9 w10 w11 w12) (L63_Rd_reads fu  n (KSo.mk a L b g) w1 w2 w3 w4 w5 w6 w7 w8 w9 w10 w11 w12) := by
  intro n
  induction n with
  | zero => intro a L b w1 w2 w3 w4 w5 w6 w7 w8 w9 w10 w11 w12 h0 h1 h2; exact OE.bad
  | succ n ih =>
    intro a L b w1 w2 w3 w4 w5 w6 w7 w8 w9 w10 w11 w12 h0 h1 h2
    rw [L63_Rd_reads.eq_2, L63_Rd_reads.eq_2]
    simp only [jp, KSo.at_, KSo.limit, KSo.failed, KSo.bytes, KSo.mk]
    repeat' (first
      | (refine OE.ite (fun _ => ?_) (fun _ => ?_))
      | exact OE.bad
      | exact OE.ret ⟨(sq_mk (by omega) (by omega) (by omega)), rfl⟩
      | exact OE.ret (sq_mk (by omega) (by omega) (by omega))
      | exact OE.ret rfl
      | exact ih _ _ _ _ _ _ _ _ _ _ _ _ _ _ _ (by omega) (by omega) (by omega)
      | (refine OE.bind (oe_So_octet hfg hN (by omega) (by omega) (by omega)) ?_; rintro ⟨_, _⟩ ⟨_, _⟩ ⟨⟨a9, L9, b9, h1, h2, h3, h4, h5⟩, h6⟩; dsimp only at h1 h2 h6; subst h1 h2 h6; try dsimp only [KSo.at_, KSo.limit, KSo.failed, KSo.bytes, KSo.mk])
      | (refine OE.bind (oe_So_fail hfg hN (by omega) (by omega) (by omega)) ?_; rintro _ _ ⟨a9, L9, b9, h1, h2, h3, h4, h5⟩; subst h1 h2; try dsimp only [KSo.at_, KSo.limit, KSo.failed, KSo.bytes, KSo.mk])
      | (refine OE.bind (oe_So_hasFailed hfg hN (by omega) (by omega) (by omega)) ?_; rintro _ _ h1; subst h1; try dsimp only [KSo.at_, KSo.limit, KSo.failed, KSo.bytes, KSo.mk])
      | (refine OE.bind (oe_So_hasMore hfg hN (by omega) (by omega) (by omega)) ?_; rintro _ _ h1; subst h1; try dsimp only [KSo.at_, KSo.limit, KSo.failed, KSo.bytes, KSo.mk])
      | (refine OE.bind (oe_So_require hfg hN (by omega) (by omega) (by omega) _) ?_; rintro _ _ ⟨a9, L9, b9, h1, h2, h3, h4, h5⟩; subst h1 h2; try dsimp only [KSo.at_, KSo.limit, KSo.failed, KSo.bytes, KSo.mk])
      | (refine OE.bind (oe_So_flag hfg hN (by omega) (by omega) (by omega)) ?_; rintro ⟨_, _⟩ ⟨_, _⟩ ⟨⟨a9, L9, b9, h1, h2, h3, h4, h5⟩, h6⟩; dsimp only at h1 h2 h6; subst h1 h2 h6; try dsimp only [KSo.at_, KSo.limit, KSo.failed, KSo.bytes, KSo.mk])
      | (refine OE.bind (oe_So_valueType hfg hN (by omega) (by omega) (by omega)) ?_; rintro ⟨_, _⟩ ⟨_, _⟩ ⟨⟨a9, L9, b9, h1, h2, h3, h4, h5⟩, h6⟩; dsimp only at h1 h2 h6; subst h1 h2 h6; try dsimp only [KSo.at_, KSo.limit, KSo.failed, KSo.bytes, KSo.mk])
      | (refine OE.bind (oe_So_left hfg hN (by omega) (by omega) (by omega)) ?_; rintro _ _ h1; subst h1; try dsimp only [KSo.at_, KSo.limit, KSo.failed, KSo.bytes, KSo.mk])
      | (refine OE.bind (oe_So_skipRest hfg hN (by omega) (by omega) (by omega)) ?_; rintro _ _ ⟨a9, L9, b9, h1, h2, h3, h4, h5⟩; subst h1 h2; try dsimp only [KSo.at_, KSo.limit, KSo.failed, KSo.bytes, KSo.mk])
      | (refine OE.bind (oe_So_widen (by omega) (by omega) (by omega)) ?_; rintro _ _ ⟨a9, L9, b9, h1, h2, h3, h4, h5⟩; subst h1 h2; try dsimp only [KSo.at_, KSo.limit, KSo.failed, KSo.bytes, KSo.mk])
      | (refine OE.bind (oe_uns hfg hN (by omega) (by omega) (by omega) _) ?_; rintro ⟨_, _⟩ ⟨_, _⟩ ⟨⟨a9, L9, b9, h1, h2, h3, h4, h5⟩, h6⟩; dsimp only at h1 h2 h6; subst h1 h2 h6; try dsimp only [KSo.at_, KSo.limit, KSo.failed, KSo.bytes, KSo.mk])
      | (refine OE.bind (oe_nar hfg hN (by omega) (by omega) (by omega)) ?_; rintro ⟨_, _⟩ ⟨_, _⟩ ⟨⟨a9, L9, b9, h1, h2, h3, h4, h5⟩, h6, h7, h8⟩; dsimp only at h1 h2 h6 h7 h8; subst h1 h2 h6; try dsimp only [KSo.at_, KSo.limit, KSo.failed, KSo.bytes, KSo.mk])
      | (refine OE.bind (oeL5_So_signed hfg hN _ _ _ _ _ _ _ (by omega) (by omega) (by omega)) ?_; rintro ⟨_, _⟩ ⟨_, _⟩ ⟨⟨a9, L9, b9, h1, h2, h3, h4, h5⟩, h6⟩; dsimp only at h1 h2 h6; subst h1 h2 h6; try dsimp only [KSo.at_, KSo.limit, KSo.failed, KSo.bytes, KSo.mk])
      | (refine OE.bind (oe_So_signed hfg hN (by omega) (by omega) (by omega) _) ?_; rintro ⟨_, _⟩ ⟨_, _⟩ ⟨⟨a9, L9, b9, h1, h2, h3, h4, h5⟩, h6⟩; dsimp only at h1 h2 h6; subst h1 h2 h6; try dsimp only [KSo.at_, KSo.limit, KSo.failed, KSo.bytes, KSo.mk])
      | (refine OE.bind (oe_BR_openBlock hfg hN (by omega) (by omega) (by omega) _ _ _) ?_; rintro ⟨_, _⟩ ⟨_, _⟩ ⟨⟨a9, L9, b9, h1, h2, h3, h4, h5⟩, h6⟩; dsimp only at h1 h2 h6; subst h1 h2 h6; try dsimp only [KSo.at_, KSo.limit, KSo.failed, KSo.bytes, KSo.mk])
      | (refine OE.bind (oe_BR_turnToElse hfg hN (by omega) (by omega) (by omega) _ _ _) ?_; rintro ⟨_, _⟩ ⟨_, _⟩ ⟨⟨a9, L9, b9, h1, h2, h3, h4, h5⟩, h6⟩; dsimp only at h1 h2 h6; subst h1 h2 h6; try dsimp only [KSo.at_, KSo.limit, KSo.failed, KSo.bytes, KSo.mk])
      | (refine OE.bind (oeL41_BR_readTable hfg hN _ _ _ _ _ _ _ _ _ _ _ (by omega) (by omega) (by omega)) ?_; rintro ⟨_, _⟩ ⟨_, _⟩ ⟨⟨a9, L9, b9, h1, h2, h3, h4, h5⟩, h6⟩; dsimp only at h1 h2 h6; subst h1 h2 h6; try dsimp only [KSo.at_, KSo.limit, KSo.failed, KSo.bytes, KSo.mk])
      | (refine OE.bind (oe_BR_readTable hfg hN (by omega) (by omega) (by omega) _ _ _) ?_; rintro ⟨_, _⟩ ⟨_, _⟩ ⟨⟨a9, L9, b9, h1, h2, h3, h4, h5⟩, h6⟩; dsimp only at h1 h2 h6; subst h1 h2 h6; try dsimp only [KSo.at_, KSo.limit, KSo.failed, KSo.bytes, KSo.mk])
      | (refine OE.bind (oe_BR_readImmediate hfg hN (by omega) (by omega) (by omega) _ _ _) ?_; rintro ⟨_, _⟩ ⟨_, _⟩ ⟨⟨a9, L9, b9, h1, h2, h3, h4, h5⟩, h6⟩; dsimp only at h1 h2 h6; subst h1 h2 h6; try dsimp only [KSo.at_, KSo.limit, KSo.failed, KSo.bytes, KSo.mk])
      | (refine OE.bind (oe_BR_readInstruction hfg hN (by omega) (by omega) (by omega) _ _ _) ?_; rintro ⟨_, _⟩ ⟨_, _⟩ ⟨⟨a9, L9, b9, h1, h2, h3, h4, h5⟩, h6⟩; dsimp only at h1 h2 h6; subst h1 h2 h6; try dsimp only [KSo.at_, KSo.limit, KSo.failed, KSo.bytes, KSo.mk])
      | (refine OE.bind (oeL52_BR_readLocals hfg hN _ _ _ _ _ _ _ _ _ _ _ _ _) ?_; rintro _ _ h1; subst h1; try dsimp only [KSo.at_, KSo.limit, KSo.failed, KSo.bytes, KSo.mk])
      | (refine OE.bind (oeL18_BR_readLocals hfg hN _ _ _ _ _ _ _ _ _ _ _ _ (by omega) (by omega) (by omega)) ?_; rintro ⟨_, _⟩ ⟨_, _⟩ ⟨⟨a9, L9, b9, h1, h2, h3, h4, h5⟩, h6⟩; dsimp only at h1 h2 h6; subst h1 h2 h6; try dsimp only [KSo.at_, KSo.limit, KSo.failed, KSo.bytes, KSo.mk])
      | (refine OE.bind (oe_BR_readLocals hfg hN (by omega) (by omega) (by omega) _ _) ?_; rintro ⟨_, _⟩ ⟨_, _⟩ ⟨⟨a9, L9, b9, h1, h2, h3, h4, h5⟩, h6⟩; dsimp only at h1 h2 h6; subst h1 h2 h6; try dsimp only [KSo.at_, KSo.limit, KSo.failed, KSo.bytes, KSo.mk])
      | (refine OE.bind (oeL73_BR_readAll hfg hN _ _ _ _ _ _ _ _ _ (by omega) (by omega) (by omega)) ?_; rintro ⟨_, _⟩ ⟨_, _⟩ ⟨⟨a9, L9, b9, h1, h2, h3, h4, h5⟩, h6⟩; dsimp only at h1 h2 h6; subst h1 h2 h6; try dsimp only [KSo.at_, KSo.limit, KSo.failed, KSo.bytes, KSo.mk])
      | (refine OE.bind (oeL16_BR_readAll hfg hN _ _ _ _ _ _ _ _ _ _ (by omega) (by omega) (by omega)) ?_; rintro ⟨_, _⟩ ⟨_, _⟩ ⟨⟨a9, L9, b9, h1, h2, h3, h4, h5⟩, h6⟩; dsimp only at h1 h2 h6; subst h1 h2 h6; try dsimp only [KSo.at_, KSo.limit, KSo.failed, KSo.bytes, KSo.mk])
      | (refine OE.bind (oe_BR_readAll hfg hN (by omega) (by omega) (by omega) _ _ _ _ _) ?_; rintro ⟨_, _⟩ ⟨_, _⟩ ⟨⟨a9, L9, b9, h1, h2, h3, h4, h5⟩, h6⟩; dsimp only at h1 h2 h6; subst h1 h2 h6; try dsimp only [KSo.at_, KSo.limit, KSo.failed, KSo.bytes, KSo.mk])
      | (refine OE.bind (oe_Rd_readCustom hfg hN (by omega) (by omega) (by omega)) ?_; rintro _ _ ⟨a9, L9, b9, h1, h2, h3, h4, h5⟩; subst h1 h2; try dsimp only [KSo.at_, KSo.limit, KSo.failed, KSo.bytes, KSo.mk])
      | (refine OE.bind (oeL62_Rd_readTypes hfg hN _ _ _ _ _ _ _ (by omega) (by omega) (by omega)) ?_; rintro ⟨_, _⟩ ⟨_, _⟩ ⟨⟨a9, L9, b9, h1, h2, h3, h4, h5⟩, h6⟩; dsimp only at h1 h2 h6; subst h1 h2 h6; try dsimp only [KSo.at_, KSo.limit, KSo.failed, KSo.bytes, KSo.mk])
      | (refine OE.bind (oeL20_Rd_readTypes hfg hN _ _ _ _ _ _ (by omega) (by omega) (by omega)) ?_; rintro ⟨_, _⟩ ⟨_, _⟩ ⟨⟨a9, L9, b9, h1, h2, h3, h4, h5⟩, h6⟩; dsimp only at h1 h2 h6; subst h1 h2 h6; try dsimp only [KSo.at_, KSo.limit, KSo.failed, KSo.bytes, KSo.mk])
      | (refine OE.bind (oe_Rd_readTypes hfg hN (by omega) (by omega) (by omega) _) ?_; rintro ⟨_, _⟩ ⟨_, _⟩ ⟨⟨a9, L9, b9, h1, h2, h3, h4, h5⟩, h6⟩; dsimp only at h1 h2 h6; subst h1 h2 h6; try dsimp only [KSo.at_, KSo.limit, KSo.failed, KSo.bytes, KSo.mk])
      | (refine OE.bind (oeL20_Rd_readFunctions hfg hN _ _ _ _ _ _ (by omega) (by omega) (by omega)) ?_; rintro ⟨_, _⟩ ⟨_, _⟩ ⟨⟨a9, L9, b9, h1, h2, h3, h4, h5⟩, h6⟩; dsimp only at h1 h2 h6; subst h1 h2 h6; try dsimp only [KSo.at_, KSo.limit, KSo.failed, KSo.bytes, KSo.mk])
      | (refine OE.bind (oe_Rd_readFunctions hfg hN (by omega) (by omega) (by omega) _) ?_; rintro ⟨_, _⟩ ⟨_, _⟩ ⟨⟨a9, L9, b9, h1, h2, h3, h4, h5⟩, h6⟩; dsimp only at h1 h2 h6; subst h1 h2 h6; try dsimp only [KSo.at_, KSo.limit, KSo.failed, KSo.bytes, KSo.mk])
      | (refine OE.bind (oe_Rd_readMemories hfg hN (by omega) (by omega) (by omega) _) ?_; rintro ⟨_, _⟩ ⟨_, _⟩ ⟨⟨a9, L9, b9, h1, h2, h3, h4, h5⟩, h6⟩; dsimp only at h1 h2 h6; subst h1 h2 h6; try dsimp only [KSo.at_, KSo.limit, KSo.failed, KSo.bytes, KSo.mk])
      | (refine OE.bind (oe_Rd_readInitialValue hfg hN (by omega) (by omega) (by omega) _ _) ?_; rintro ⟨_, _⟩ ⟨_, _⟩ ⟨⟨a9, L9, b9, h1, h2, h3, h4, h5⟩, h6⟩; dsimp only at h1 h2 h6; subst h1 h2 h6; try dsimp only [KSo.at_, KSo.limit, KSo.failed, KSo.bytes, KSo.mk])
      | (refine OE.bind (oeL20_Rd_readGlobals hfg hN _ _ _ _ _ _ (by omega) (by omega) (by omega)) ?_; rintro ⟨_, _⟩ ⟨_, _⟩ ⟨⟨a9, L9, b9, h1, h2, h3, h4, h5⟩, h6⟩; dsimp only at h1 h2 h6; subst h1 h2 h6; try dsimp only [KSo.at_, KSo.limit, KSo.failed, KSo.bytes, KSo.mk])
      | (refine OE.bind (oe_Rd_readGlobals hfg hN (by omega) (by omega) (by omega) _) ?_; rintro ⟨_, _⟩ ⟨_, _⟩ ⟨⟨a9, L9, b9, h1, h2, h3, h4, h5⟩, h6⟩; dsimp only at h1 h2 h6; subst h1 h2 h6; try dsimp only [KSo.at_, KSo.limit, KSo.failed, KSo.bytes, KSo.mk])
      | (refine OE.bind (oeL52_Rd_readExports hfg hN _ _ _ _ _ _ _ (by omega) (by omega) (by omega)) ?_; rintro ⟨_, _⟩ ⟨_, _⟩ ⟨⟨a9, L9, b9, h1, h2, h3, h4, h5⟩, h6⟩; dsimp only at h1 h2 h6; subst h1 h2 h6; try dsimp only [KSo.at_, KSo.limit, KSo.failed, KSo.bytes, KSo.mk])
      | (refine OE.bind (oeL25_Rd_readExports hfg hN _ _ _ _ _ _ (by omega) (by omega) (by omega)) ?_; rintro ⟨_, _⟩ ⟨_, _⟩ ⟨⟨a9, L9, b9, h1, h2, h3, h4, h5⟩, h6⟩; dsimp only at h1 h2 h6; subst h1 h2 h6; try dsimp only [KSo.at_, KSo.limit, KSo.failed, KSo.bytes, KSo.mk])
      | (refine OE.bind (oe_Rd_readExports hfg hN (by omega) (by omega) (by omega) _) ?_; rintro ⟨_, _⟩ ⟨_, _⟩ ⟨⟨a9, L9, b9, h1, h2, h3, h4, h5⟩, h6⟩; dsimp only at h1 h2 h6; subst h1 h2 h6; try dsimp only [KSo.at_, KSo.limit, KSo.failed, KSo.bytes, KSo.mk])
      | (refine OE.bind (oe_Rd_readSection hfg hN (by omega) (by omega) (by omega) _ _ _ _ _ _ _ _ _ _ _) ?_; rintro ⟨_, _⟩ ⟨_, _⟩ ⟨⟨a9, L9, b9, h1, h2, h3, h4, h5⟩, h6⟩; dsimp only at h1 h2 h6; subst h1 h2 h6; try dsimp only [KSo.at_, KSo.limit, KSo.failed, KSo.bytes, KSo.mk])
      | (refine OE.same (fun _ => ?_)))
set_option maxRecDepth 20000 in
theorem oeL29_Rd_reads (hfg : ∀ k : Nat, (k : Int) < N → f k = g k) (hN : N ≤ 2000)  : ∀ (n : Nat) (a L : Int) (b : Bool) (w1 : Int), 0 ≤ a → 0 ≤ L → L ≤ N → OE (Rp N f g) (L29_Rd_reads fu  n (KSo.mk a L b f) w1) (L29_Rd_reads fu  n (KSo.mk a L b g) w1) := by
  intro n
  induction n with
  | zero => intro a L b w1 h0 h1 h2; exact OE.bad
  | succ n ih =>
    intro a L b w1 h0 h1 h2
    rw [L29_Rd_reads.eq_2, L29_Rd_reads.eq_2]
    simp only [jp, KSo.at_, KSo.limit, KSo.failed, KSo.bytes, KSo.mk]
    repeat' (first
      | (refine OE.ite (fun _ => ?_) (fun _ => ?_))
      | exact OE.bad
      | exact OE.ret ⟨(sq_mk (by omega) (by omega) (by omega)), rfl⟩
      | exact OE.ret (sq_mk (by omega) (by omega) (by omega))
      | exact OE.ret rfl
      | exact ih _ _ _ _ (by omega) (by omega) (by omega)
      | (refine OE.bind (oe_So_octet hfg hN (by omega) (by omega) (by omega)) ?_; rintro ⟨_, _⟩ ⟨_, _⟩ ⟨⟨a9, L9, b9, h1, h2, h3, h4, h5⟩, h6⟩; dsimp only at h1 h2 h6; subst h1 h2 h6; try dsimp only [KSo.at_, KSo.limit, KSo.failed, KSo.bytes, KSo.mk])
      | (refine OE.bind (oe_So_fail hfg hN (by omega) (by omega) (by omega)) ?_; rintro _ _ ⟨a9, L9, b9, h1, h2, h3, h4, h5⟩; subst h1 h2; try dsimp only [KSo.at_, KSo.limit, KSo.failed, KSo.bytes, KSo.mk])
      | (refine OE.bind (oe_So_hasFailed hfg hN (by omega) (by omega) (by omega)) ?_; rintro _ _ h1; subst h1; try dsimp only [KSo.at_, KSo.limit, KSo.failed, KSo.bytes, KSo.mk])
      | (refine OE.bind (oe_So_hasMore hfg hN (by omega) (by omega) (by omega)) ?_; rintro _ _ h1; subst h1; try dsimp only [KSo.at_, KSo.limit, KSo.failed, KSo.bytes, KSo.mk])
      | (refine OE.bind (oe_So_require hfg hN (by omega) (by omega) (by omega) _) ?_; rintro _ _ ⟨a9, L9, b9, h1, h2, h3, h4, h5⟩; subst h1 h2; try dsimp only [KSo.at_, KSo.limit, KSo.failed, KSo.bytes, KSo.mk])
      | (refine OE.bind (oe_So_flag hfg hN (by omega) (by omega) (by omega)) ?_; rintro ⟨_, _⟩ ⟨_, _⟩ ⟨⟨a9, L9, b9, h1, h2, h3, h4, h5⟩, h6⟩; dsimp only at h1 h2 h6; subst h1 h2 h6; try dsimp only [KSo.at_, KSo.limit, KSo.failed, KSo.bytes, KSo.mk])
      | (refine OE.bind (oe_So_valueType hfg hN (by omega) (by omega) (by omega)) ?_; rintro ⟨_, _⟩ ⟨_, _⟩ ⟨⟨a9, L9, b9, h1, h2, h3, h4, h5⟩, h6⟩; dsimp only at h1 h2 h6; subst h1 h2 h6; try dsimp only [KSo.at_, KSo.limit, KSo.failed, KSo.bytes, KSo.mk])
      | (refine OE.bind (oe_So_left hfg hN (by omega) (by omega) (by omega)) ?_; rintro _ _ h1; subst h1; try dsimp only [KSo.at_, KSo.limit, KSo.failed, KSo.bytes, KSo.mk])
      | (refine OE.bind (oe_So_skipRest hfg hN (by omega) (by omega) (by omega)) ?_; rintro _ _ ⟨a9, L9, b9, h1, h2, h3, h4, h5⟩; subst h1 h2; try dsimp only [KSo.at_, KSo.limit, KSo.failed, KSo.bytes, KSo.mk])
      | (refine OE.bind (oe_So_widen (by omega) (by omega) (by omega)) ?_; rintro _ _ ⟨a9, L9, b9, h1, h2, h3, h4, h5⟩; subst h1 h2; try dsimp only [KSo.at_, KSo.limit, KSo.failed, KSo.bytes, KSo.mk])
      | (refine OE.bind (oe_uns hfg hN (by omega) (by omega) (by omega) _) ?_; rintro ⟨_, _⟩ ⟨_, _⟩ ⟨⟨a9, L9, b9, h1, h2, h3, h4, h5⟩, h6⟩; dsimp only at h1 h2 h6; subst h1 h2 h6; try dsimp only [KSo.at_, KSo.limit, KSo.failed, KSo.bytes, KSo.mk])
      | (refine OE.bind (oe_nar hfg hN (by omega) (by omega) (by omega)) ?_; rintro ⟨_, _⟩ ⟨_, _⟩ ⟨⟨a9, L9, b9, h1, h2, h3, h4, h5⟩, h6, h7, h8⟩; dsimp only at h1 h2 h6 h7 h8; subst h1 h2 h6; try dsimp only [KSo.at_, KSo.limit, KSo.failed, KSo.bytes, KSo.mk])
      | (refine OE.bind (oeL5_So_signed hfg hN _ _ _ _ _ _ _ (by omega) (by omega) (by omega)) ?_; rintro ⟨_, _⟩ ⟨_, _⟩ ⟨⟨a9, L9, b9, h1, h2, h3, h4, h5⟩, h6⟩; dsimp only at h1 h2 h6; subst h1 h2 h6; try dsimp only [KSo.at_, KSo.limit, KSo.failed, KSo.bytes, KSo.mk])
      | (refine OE.bind (oe_So_signed hfg hN (by omega) (by omega) (by omega) _) ?_; rintro ⟨_, _⟩ ⟨_, _⟩ ⟨⟨a9, L9, b9, h1, h2, h3, h4, h5⟩, h6⟩; dsimp only at h1 h2 h6; subst h1 h2 h6; try dsimp only [KSo.at_, KSo.limit, KSo.failed, KSo.bytes, KSo.mk])
      | (refine OE.bind (oe_BR_openBlock hfg hN (by omega) (by omega) (by omega) _ _ _) ?_; rintro ⟨_, _⟩ ⟨_, _⟩ ⟨⟨a9, L9, b9, h1, h2, h3, h4, h5⟩, h6⟩; dsimp only at h1 h2 h6; subst h1 h2 h6; try dsimp only [KSo.at_, KSo.limit, KSo.failed, KSo.bytes, KSo.mk])
      | (refine OE.bind (oe_BR_turnToElse hfg hN (by omega) (by omega) (by omega) _ _ _) ?_; rintro ⟨_, _⟩ ⟨_, _⟩ ⟨⟨a9, L9, b9, h1, h2, h3, h4, h5⟩, h6⟩; dsimp only at h1 h2 h6; subst h1 h2 h6; try dsimp only [KSo.at_, KSo.limit, KSo.failed, KSo.bytes, KSo.mk])
      | (refine OE.bind (oeL41_BR_readTable hfg hN _ _ _ _ _ _ _ _ _ _ _ (by omega) (by omega) (by omega)) ?_; rintro ⟨_, _⟩ ⟨_, _⟩ ⟨⟨a9, L9, b9, h1, h2, h3, h4, h5⟩, h6⟩; dsimp only at h1 h2 h6; subst h1 h2 h6; try dsimp only [KSo.at_, KSo.limit, KSo.failed, KSo.bytes, KSo.mk])
      | (refine OE.bind (oe_BR_readTable hfg hN (by omega) (by omega) (by omega) _ _ _) ?_; rintro ⟨_, _⟩ ⟨_, _⟩ ⟨⟨a9, L9, b9, h1, h2, h3, h4, h5⟩, h6⟩; dsimp only at h1 h2 h6; subst h1 h2 h6; try dsimp only [KSo.at_, KSo.limit, KSo.failed, KSo.bytes, KSo.mk])
      | (refine OE.bind (oe_BR_readImmediate hfg hN (by omega) (by omega) (by omega) _ _ _) ?_; rintro ⟨_, _⟩ ⟨_, _⟩ ⟨⟨a9, L9, b9, h1, h2, h3, h4, h5⟩, h6⟩; dsimp only at h1 h2 h6; subst h1 h2 h6; try dsimp only [KSo.at_, KSo.limit, KSo.failed, KSo.bytes, KSo.mk])
      | (refine OE.bind (oe_BR_readInstruction hfg hN (by omega) (by omega) (by omega) _ _ _) ?_; rintro ⟨_, _⟩ ⟨_, _⟩ ⟨⟨a9, L9, b9, h1, h2, h3, h4, h5⟩, h6⟩; dsimp only at h1 h2 h6; subst h1 h2 h6; try dsimp only [KSo.at_, KSo.limit, KSo.failed, KSo.bytes, KSo.mk])
      | (refine OE.bind (oeL52_BR_readLocals hfg hN _ _ _ _ _ _ _ _ _ _ _ _ _) ?_; rintro _ _ h1; subst h1; try dsimp only [KSo.at_, KSo.limit, KSo.failed, KSo.bytes, KSo.mk])
      | (refine OE.bind (oeL18_BR_readLocals hfg hN _ _ _ _ _ _ _ _ _ _ _ _ (by omega) (by omega) (by omega)) ?_; rintro ⟨_, _⟩ ⟨_, _⟩ ⟨⟨a9, L9, b9, h1, h2, h3, h4, h5⟩, h6⟩; dsimp only at h1 h2 h6; subst h1 h2 h6; try dsimp only [KSo.at_, KSo.limit, KSo.failed, KSo.bytes, KSo.mk])
      | (refine OE.bind (oe_BR_readLocals hfg hN (by omega) (by omega) (by omega) _ _) ?_; rintro ⟨_, _⟩ ⟨_, _⟩ ⟨⟨a9, L9, b9, h1, h2, h3, h4, h5⟩, h6⟩; dsimp only at h1 h2 h6; subst h1 h2 h6; try dsimp only [KSo.at_, KSo.limit, KSo.failed, KSo.bytes, KSo.mk])
      | (refine OE.bind (oeL73_BR_readAll hfg hN _ _ _ _ _ _ _ _ _ (by omega) (by omega) (by omega)) ?_; rintro ⟨_, _⟩ ⟨_, _⟩ ⟨⟨a9, L9, b9, h1, h2, h3, h4, h5⟩, h6⟩; dsimp only at h1 h2 h6; subst h1 h2 h6; try dsimp only [KSo.at_, KSo.limit, KSo.failed, KSo.bytes, KSo.mk])
      | (refine OE.bind (oeL16_BR_readAll hfg hN _ _ _ _ _ _ _ _ _ _ (by omega) (by omega) (by omega)) ?_; rintro ⟨_, _⟩ ⟨_, _⟩ ⟨⟨a9, L9, b9, h1, h2, h3, h4, h5⟩, h6⟩; dsimp only at h1 h2 h6; subst h1 h2 h6; try dsimp only [KSo.at_, KSo.limit, KSo.failed, KSo.bytes, KSo.mk])
      | (refine OE.bind (oe_BR_readAll hfg hN (by omega) (by omega) (by omega) _ _ _ _ _) ?_; rintro ⟨_, _⟩ ⟨_, _⟩ ⟨⟨a9, L9, b9, h1, h2, h3, h4, h5⟩, h6⟩; dsimp only at h1 h2 h6; subst h1 h2 h6; try dsimp only [KSo.at_, KSo.limit, KSo.failed, KSo.bytes, KSo.mk])
      | (refine OE.bind (oe_Rd_readCustom hfg hN (by omega) (by omega) (by omega)) ?_; rintro _ _ ⟨a9, L9, b9, h1, h2, h3, h4, h5⟩; subst h1 h2; try dsimp only [KSo.at_, KSo.limit, KSo.failed, KSo.bytes, KSo.mk])
      | (refine OE.bind (oeL62_Rd_readTypes hfg hN _ _ _ _ _ _ _ (by omega) (by omega) (by omega)) ?_; rintro ⟨_, _⟩ ⟨_, _⟩ ⟨⟨a9, L9, b9, h1, h2, h3, h4, h5⟩, h6⟩; dsimp only at h1 h2 h6; subst h1 h2 h6; try dsimp only [KSo.at_, KSo.limit, KSo.failed, KSo.bytes, KSo.mk])
      | (refine OE.bind (oeL20_Rd_readTypes hfg hN _ _ _ _ _ _ (by omega) (by omega) (by omega)) ?_; rintro ⟨_, _⟩ ⟨_, _⟩ ⟨⟨a9, L9, b9, h1, h2, h3, h4, h5⟩, h6⟩; dsimp only at h1 h2 h6; subst h1 h2 h6; try dsimp only [KSo.at_, KSo.limit, KSo.failed, KSo.bytes, KSo.mk])
      | (refine OE.bind (oe_Rd_readTypes hfg hN (by omega) (by omega) (by omega) _) ?_; rintro ⟨_, _⟩ ⟨_, _⟩ ⟨⟨a9, L9, b9, h1, h2, h3, h4, h5⟩, h6⟩; dsimp only at h1 h2 h6; subst h1 h2 h6; try dsimp only [KSo.at_, KSo.limit, KSo.failed, KSo.bytes, KSo.mk])
      | (refine OE.bind (oeL20_Rd_readFunctions hfg hN _ _ _ _ _ _ (by omega) (by omega) (by omega)) ?_; rintro ⟨_, _⟩ ⟨_, _⟩ ⟨⟨a9, L9, b9, h1, h2, h3, h4, h5⟩, h6⟩; dsimp only at h1 h2 h6; subst h1 h2 h6; try dsimp only [KSo.at_, KSo.limit, KSo.failed, KSo.bytes, KSo.mk])
      | (refine OE.bind (oe_Rd_readFunctions hfg hN (by omega) (by omega) (by omega) _) ?_; rintro ⟨_, _⟩ ⟨_, _⟩ ⟨⟨a9, L9, b9, h1, h2, h3, h4, h5⟩, h6⟩; dsimp only at h1 h2 h6; subst h1 h2 h6; try dsimp only [KSo.at_, KSo.limit, KSo.failed, KSo.bytes, KSo.mk])
      | (refine OE.bind (oe_Rd_readMemories hfg hN (by omega) (by omega) (by omega) _) ?_; rintro ⟨_, _⟩ ⟨_, _⟩ ⟨⟨a9, L9, b9, h1, h2, h3, h4, h5⟩, h6⟩; dsimp only at h1 h2 h6; subst h1 h2 h6; try dsimp only [KSo.at_, KSo.limit, KSo.failed, KSo.bytes, KSo.mk])
      | (refine OE.bind (oe_Rd_readInitialValue hfg hN (by omega) (by omega) (by omega) _ _) ?_; rintro ⟨_, _⟩ ⟨_, _⟩ ⟨⟨a9, L9, b9, h1, h2, h3, h4, h5⟩, h6⟩; dsimp only at h1 h2 h6; subst h1 h2 h6; try dsimp only [KSo.at_, KSo.limit, KSo.failed, KSo.bytes, KSo.mk])
      | (refine OE.bind (oeL20_Rd_readGlobals hfg hN _ _ _ _ _ _ (by omega) (by omega) (by omega)) ?_; rintro ⟨_, _⟩ ⟨_, _⟩ ⟨⟨a9, L9, b9, h1, h2, h3, h4, h5⟩, h6⟩; dsimp only at h1 h2 h6; subst h1 h2 h6; try dsimp only [KSo.at_, KSo.limit, KSo.failed, KSo.bytes, KSo.mk])
      | (refine OE.bind (oe_Rd_readGlobals hfg hN (by omega) (by omega) (by omega) _) ?_; rintro ⟨_, _⟩ ⟨_, _⟩ ⟨⟨a9, L9, b9, h1, h2, h3, h4, h5⟩, h6⟩; dsimp only at h1 h2 h6; subst h1 h2 h6; try dsimp only [KSo.at_, KSo.limit, KSo.failed, KSo.bytes, KSo.mk])
      | (refine OE.bind (oeL52_Rd_readExports hfg hN _ _ _ _ _ _ _ (by omega) (by omega) (by omega)) ?_; rintro ⟨_, _⟩ ⟨_, _⟩ ⟨⟨a9, L9, b9, h1, h2, h3, h4, h5⟩, h6⟩; dsimp only at h1 h2 h6; subst h1 h2 h6; try dsimp only [KSo.at_, KSo.limit, KSo.failed, KSo.bytes, KSo.mk])
      | (refine OE.bind (oeL25_Rd_readExports hfg hN _ _ _ _ _ _ (by omega) (by omega) (by omega)) ?_; rintro ⟨_, _⟩ ⟨_, _⟩ ⟨⟨a9, L9, b9, h1, h2, h3, h4, h5⟩, h6⟩; dsimp only at h1 h2 h6; subst h1 h2 h6; try dsimp only [KSo.at_, KSo.limit, KSo.failed, KSo.bytes, KSo.mk])
      | (refine OE.bind (oe_Rd_readExports hfg hN (by omega) (by omega) (by omega) _) ?_; rintro ⟨_, _⟩ ⟨_, _⟩ ⟨⟨a9, L9, b9, h1, h2, h3, h4, h5⟩, h6⟩; dsimp only at h1 h2 h6; subst h1 h2 h6; try dsimp only [KSo.at_, KSo.limit, KSo.failed, KSo.bytes, KSo.mk])
      | (refine OE.bind (oe_Rd_readSection hfg hN (by omega) (by omega) (by omega) _ _ _ _ _ _ _ _ _ _ _) ?_; rintro ⟨_, _⟩ ⟨_, _⟩ ⟨⟨a9, L9, b9, h1, h2, h3, h4, h5⟩, h6⟩; dsimp only at h1 h2 h6; subst h1 h2 h6; try dsimp only [KSo.at_, KSo.limit, KSo.failed, KSo.bytes, KSo.mk])
      | (refine OE.bind (oeL63_Rd_reads hfg hN _ _ _ _ _ _ _ _ _ _ _ _ _ _ _ _ (by omega) (by omega) (by omega)) ?_; rintro ⟨_, _⟩ ⟨_, _⟩ ⟨⟨a9, L9, b9, h1, h2, h3, h4, h5⟩, h6⟩; dsimp only at h1 h2 h6; subst h1 h2 h6; try dsimp only [KSo.at_, KSo.limit, KSo.failed, KSo.bytes, KSo.mk])
      | (refine OE.same (fun _ => ?_)))
set_option maxRecDepth 20000 in
theorem oe_Rd_reads (hfg : ∀ k : Nat, (k : Int) < N → f k = g k) (hN : N ≤ 2000) (h0 : 0 ≤ N) {a L : Int} {b : Bool} (zCo : KCo) (zCt : KCt) (zEx : KEx) (zW1 : KW1) (zW3 : KW3) (zWj : KWj) (zW5 : KW5) (zW6 : KW6) (zBR : KBR) (zRd : KRd) : OE (Rp N f g) (f_Rd_reads fu (KSo.mk a L b f) zCo zCt zEx zW1 zW3 zWj zW5 zW6 zBR zRd N) (f_Rd_reads fu (KSo.mk a L b g) zCo zCt zEx zW1 zW3 zWj zW5 zW6 zBR zRd N) := by
  unfold f_Rd_reads
  rw [show f_So_open (KSo.mk a L b f) N = .ret (KSo.mk 0 N false f) from rfl, show f_So_open (KSo.mk a L b g) N = .ret (KSo.mk 0 N false g) from rfl, obind_ret, obind_ret]
  simp only [jp, KSo.at_, KSo.limit, KSo.failed, KSo.bytes, KSo.mk]
  repeat' (first
    | (refine OE.ite (fun _ => ?_) (fun _ => ?_))
    | exact OE.bad
    | exact OE.ret ⟨(sq_mk (by omega) (by omega) (by omega)), rfl⟩
    | exact OE.ret (sq_mk (by omega) (by omega) (by omega))
    | exact OE.ret rfl
    | (refine OE.bind (oe_So_octet hfg hN (by omega) (by omega) (by omega)) ?_; rintro ⟨_, _⟩ ⟨_, _⟩ ⟨⟨a9, L9, b9, h1, h2, h3, h4, h5⟩, h6⟩; dsimp only at h1 h2 h6; subst h1 h2 h6; try dsimp only [KSo.at_, KSo.limit, KSo.failed, KSo.bytes, KSo.mk])
    | (refine OE.bind (oe_So_fail hfg hN (by omega) (by omega) (by omega)) ?_; rintro _ _ ⟨a9, L9, b9, h1, h2, h3, h4, h5⟩; subst h1 h2; try dsimp only [KSo.at_, KSo.limit, KSo.failed, KSo.bytes, KSo.mk])
    | (refine OE.bind (oe_So_hasFailed hfg hN (by omega) (by omega) (by omega)) ?_; rintro _ _ h1; subst h1; try dsimp only [KSo.at_, KSo.limit, KSo.failed, KSo.bytes, KSo.mk])
    | (refine OE.bind (oe_So_hasMore hfg hN (by omega) (by omega) (by omega)) ?_; rintro _ _ h1; subst h1; try dsimp only [KSo.at_, KSo.limit, KSo.failed, KSo.bytes, KSo.mk])
    | (refine OE.bind (oe_So_require hfg hN (by omega) (by omega) (by omega) _) ?_; rintro _ _ ⟨a9, L9, b9, h1, h2, h3, h4, h5⟩; subst h1 h2; try dsimp only [KSo.at_, KSo.limit, KSo.failed, KSo.bytes, KSo.mk])
    | (refine OE.bind (oe_So_flag hfg hN (by omega) (by omega) (by omega)) ?_; rintro ⟨_, _⟩ ⟨_, _⟩ ⟨⟨a9, L9, b9, h1, h2, h3, h4, h5⟩, h6⟩; dsimp only at h1 h2 h6; subst h1 h2 h6; try dsimp only [KSo.at_, KSo.limit, KSo.failed, KSo.bytes, KSo.mk])
    | (refine OE.bind (oe_So_valueType hfg hN (by omega) (by omega) (by omega)) ?_; rintro ⟨_, _⟩ ⟨_, _⟩ ⟨⟨a9, L9, b9, h1, h2, h3, h4, h5⟩, h6⟩; dsimp only at h1 h2 h6; subst h1 h2 h6; try dsimp only [KSo.at_, KSo.limit, KSo.failed, KSo.bytes, KSo.mk])
    | (refine OE.bind (oe_So_left hfg hN (by omega) (by omega) (by omega)) ?_; rintro _ _ h1; subst h1; try dsimp only [KSo.at_, KSo.limit, KSo.failed, KSo.bytes, KSo.mk])
    | (refine OE.bind (oe_So_skipRest hfg hN (by omega) (by omega) (by omega)) ?_; rintro _ _ ⟨a9, L9, b9, h1, h2, h3, h4, h5⟩; subst h1 h2; try dsimp only [KSo.at_, KSo.limit, KSo.failed, KSo.bytes, KSo.mk])
    | (refine OE.bind (oe_So_widen (by omega) (by omega) (by omega)) ?_; rintro _ _ ⟨a9, L9, b9, h1, h2, h3, h4, h5⟩; subst h1 h2; try dsimp only [KSo.at_, KSo.limit, KSo.failed, KSo.bytes, KSo.mk])
    | (refine OE.bind (oe_uns hfg hN (by omega) (by omega) (by omega) _) ?_; rintro ⟨_, _⟩ ⟨_, _⟩ ⟨⟨a9, L9, b9, h1, h2, h3, h4, h5⟩, h6⟩; dsimp only at h1 h2 h6; subst h1 h2 h6; try dsimp only [KSo.at_, KSo.limit, KSo.failed, KSo.bytes, KSo.mk])
    | (refine OE.bind (oe_nar hfg hN (by omega) (by omega) (by omega)) ?_; rintro ⟨_, _⟩ ⟨_, _⟩ ⟨⟨a9, L9, b9, h1, h2, h3, h4, h5⟩, h6, h7, h8⟩; dsimp only at h1 h2 h6 h7 h8; subst h1 h2 h6; try dsimp only [KSo.at_, KSo.limit, KSo.failed, KSo.bytes, KSo.mk])
    | (refine OE.bind (oeL5_So_signed hfg hN _ _ _ _ _ _ _ (by omega) (by omega) (by omega)) ?_; rintro ⟨_, _⟩ ⟨_, _⟩ ⟨⟨a9, L9, b9, h1, h2, h3, h4, h5⟩, h6⟩; dsimp only at h1 h2 h6; subst h1 h2 h6; try dsimp only [KSo.at_, KSo.limit, KSo.failed, KSo.bytes, KSo.mk])
    | (refine OE.bind (oe_So_signed hfg hN (by omega) (by omega) (by omega) _) ?_; rintro ⟨_, _⟩ ⟨_, _⟩ ⟨⟨a9, L9, b9, h1, h2, h3, h4, h5⟩, h6⟩; dsimp only at h1 h2 h6; subst h1 h2 h6; try dsimp only [KSo.at_, KSo.limit, KSo.failed, KSo.bytes, KSo.mk])
    | (refine OE.bind (oe_BR_openBlock hfg hN (by omega) (by omega) (by omega) _ _ _) ?_; rintro ⟨_, _⟩ ⟨_, _⟩ ⟨⟨a9, L9, b9, h1, h2, h3, h4, h5⟩, h6⟩; dsimp only at h1 h2 h6; subst h1 h2 h6; try dsimp only [KSo.at_, KSo.limit, KSo.failed, KSo.bytes, KSo.mk])
    | (refine OE.bind (oe_BR_turnToElse hfg hN (by omega) (by omega) (by omega) _ _ _) ?_; rintro ⟨_, _⟩ ⟨_, _⟩ ⟨⟨a9, L9, b9, h1, h2, h3, h4, h5⟩, h6⟩; dsimp only at h1 h2 h6; subst h1 h2 h6; try dsimp only [KSo.at_, KSo.limit, KSo.failed, KSo.bytes, KSo.mk])
    | (refine OE.bind (oeL41_BR_readTable hfg hN _ _ _ _ _ _ _ _ _ _ _ (by omega) (by omega) (by omega)) ?_; rintro ⟨_, _⟩ ⟨_, _⟩ ⟨⟨a9, L9, b9, h1, h2, h3, h4, h5⟩, h6⟩; dsimp only at h1 h2 h6; subst h1 h2 h6; try dsimp only [KSo.at_, KSo.limit, KSo.failed, KSo.bytes, KSo.mk])
    | (refine OE.bind (oe_BR_readTable hfg hN (by omega) (by omega) (by omega) _ _ _) ?_; rintro ⟨_, _⟩ ⟨_, _⟩ ⟨⟨a9, L9, b9, h1, h2, h3, h4, h5⟩, h6⟩; dsimp only at h1 h2 h6; subst h1 h2 h6; try dsimp only [KSo.at_, KSo.limit, KSo.failed, KSo.bytes, KSo.mk])
    | (refine OE.bind (oe_BR_readImmediate hfg hN (by omega) (by omega) (by omega) _ _ _) ?_; rintro ⟨_, _⟩ ⟨_, _⟩ ⟨⟨a9, L9, b9, h1, h2, h3, h4, h5⟩, h6⟩; dsimp only at h1 h2 h6; subst h1 h2 h6; try dsimp only [KSo.at_, KSo.limit, KSo.failed, KSo.bytes, KSo.mk])
    | (refine OE.bind (oe_BR_readInstruction hfg hN (by omega) (by omega) (by omega) _ _ _) ?_; rintro ⟨_, _⟩ ⟨_, _⟩ ⟨⟨a9, L9, b9, h1, h2, h3, h4, h5⟩, h6⟩; dsimp only at h1 h2 h6; subst h1 h2 h6; try dsimp only [KSo.at_, KSo.limit, KSo.failed, KSo.bytes, KSo.mk])
    | (refine OE.bind (oeL52_BR_readLocals hfg hN _ _ _ _ _ _ _ _ _ _ _ _ _) ?_; rintro _ _ h1; subst h1; try dsimp only [KSo.at_, KSo.limit, KSo.failed, KSo.bytes, KSo.mk])
    | (refine OE.bind (oeL18_BR_readLocals hfg hN _ _ _ _ _ _ _ _ _ _ _ _ (by omega) (by omega) (by omega)) ?_; rintro ⟨_, _⟩ ⟨_, _⟩ ⟨⟨a9, L9, b9, h1, h2, h3, h4, h5⟩, h6⟩; dsimp only at h1 h2 h6; subst h1 h2 h6; try dsimp only [KSo.at_, KSo.limit, KSo.failed, KSo.bytes, KSo.mk])
    | (refine OE.bind (oe_BR_readLocals hfg hN (by omega) (by omega) (by omega) _ _) ?_; rintro ⟨_, _⟩ ⟨_, _⟩ ⟨⟨a9, L9, b9, h1, h2, h3, h4, h5⟩, h6⟩; dsimp only at h1 h2 h6; subst h1 h2 h6; try dsimp only [KSo.at_, KSo.limit, KSo.failed, KSo.bytes, KSo.mk])
    | (refine OE.bind (oeL73_BR_readAll hfg hN _ _ _ _ _ _ _ _ _ (by omega) (by omega) (by omega)) ?_; rintro ⟨_, _⟩ ⟨_, _⟩ ⟨⟨a9, L9, b9, h1, h2, h3, h4, h5⟩, h6⟩; dsimp only at h1 h2 h6; subst h1 h2 h6; try dsimp only [KSo.at_, KSo.limit, KSo.failed, KSo.bytes, KSo.mk])
    | (refine OE.bind (oeL16_BR_readAll hfg hN _ _ _ _ _ _ _ _ _ _ (by omega) (by omega) (by omega)) ?_; rintro ⟨_, _⟩ ⟨_, _⟩ ⟨⟨a9, L9, b9, h1, h2, h3, h4, h5⟩, h6⟩; dsimp only at h1 h2 h6; subst h1 h2 h6; try dsimp only [KSo.at_, KSo.limit, KSo.failed, KSo.bytes, KSo.mk])
    | (refine OE.bind (oe_BR_readAll hfg hN (by omega) (by omega) (by omega) _ _ _ _ _) ?_; rintro ⟨_, _⟩ ⟨_, _⟩ ⟨⟨a9, L9, b9, h1, h2, h3, h4, h5⟩, h6⟩; dsimp only at h1 h2 h6; subst h1 h2 h6; try dsimp only [KSo.at_, KSo.limit, KSo.failed, KSo.bytes, KSo.mk])
    | (refine OE.bind (oe_Rd_readCustom hfg hN (by omega) (by omega) (by omega)) ?_; rintro _ _ ⟨a9, L9, b9, h1, h2, h3, h4, h5⟩; subst h1 h2; try dsimp only [KSo.at_, KSo.limit, KSo.failed, KSo.bytes, KSo.mk])
    | (refine OE.bind (oeL62_Rd_readTypes hfg hN _ _ _ _ _ _ _ (by omega) (by omega) (by omega)) ?_; rintro ⟨_, _⟩ ⟨_, _⟩ ⟨⟨a9, L9, b9, h1, h2, h3, h4, h5⟩, h6⟩; dsimp only at h1 h2 h6; subst h1 h2 h6; try dsimp only [KSo.at_, KSo.limit, KSo.failed, KSo.bytes, KSo.mk])
    | (refine OE.bind (oeL20_Rd_readTypes hfg hN _ _ _ _ _ _ (by omega) (by omega) (by omega)) ?_; rintro ⟨_, _⟩ ⟨_, _⟩ ⟨⟨a9, L9, b9, h1, h2, h3, h4, h5⟩, h6⟩; dsimp only at h1 h2 h6; subst h1 h2 h6; try dsimp only [KSo.at_, KSo.limit, KSo.failed, KSo.bytes, KSo.mk])
    | (refine OE.bind (oe_Rd_readTypes hfg hN (by omega) (by omega) (by omega) _) ?_; rintro ⟨_, _⟩ ⟨_, _⟩ ⟨⟨a9, L9, b9, h1, h2, h3, h4, h5⟩, h6⟩; dsimp only at h1 h2 h6; subst h1 h2 h6; try dsimp only [KSo.at_, KSo.limit, KSo.failed, KSo.bytes, KSo.mk])
    | (refine OE.bind (oeL20_Rd_readFunctions hfg hN _ _ _ _ _ _ (by omega) (by omega) (by omega)) ?_; rintro ⟨_, _⟩ ⟨_, _⟩ ⟨⟨a9, L9, b9, h1, h2, h3, h4, h5⟩, h6⟩; dsimp only at h1 h2 h6; subst h1 h2 h6; try dsimp only [KSo.at_, KSo.limit, KSo.failed, KSo.bytes, KSo.mk])
    | (refine OE.bind (oe_Rd_readFunctions hfg hN (by omega) (by omega) (by omega) _) ?_; rintro ⟨_, _⟩ ⟨_, _⟩ ⟨⟨a9, L9, b9, h1, h2, h3, h4, h5⟩, h6⟩; dsimp only at h1 h2 h6; subst h1 h2 h6; try dsimp only [KSo.at_, KSo.limit, KSo.failed, KSo.bytes, KSo.mk])
    | (refine OE.bind (oe_Rd_readMemories hfg hN (by omega) (by omega) (by omega) _) ?_; rintro ⟨_, _⟩ ⟨_, _⟩ ⟨⟨a9, L9, b9, h1, h2, h3, h4, h5⟩, h6⟩; dsimp only at h1 h2 h6; subst h1 h2 h6; try dsimp only [KSo.at_, KSo.limit, KSo.failed, KSo.bytes, KSo.mk])
    | (refine OE.bind (oe_Rd_readInitialValue hfg hN (by omega) (by omega) (by omega) _ _) ?_; rintro ⟨_, _⟩ ⟨_, _⟩ ⟨⟨a9, L9, b9, h1, h2, h3, h4, h5⟩, h6⟩; dsimp only at h1 h2 h6; subst h1 h2 h6; try dsimp only [KSo.at_, KSo.limit, KSo.failed, KSo.bytes, KSo.mk])
    | (refine OE.bind (oeL20_Rd_readGlobals hfg hN _ _ _ _ _ _ (by omega) (by omega) (by omega)) ?_; rintro ⟨_, _⟩ ⟨_, _⟩ ⟨⟨a9, L9, b9, h1, h2, h3, h4, h5⟩, h6⟩; dsimp only at h1 h2 h6; subst h1 h2 h6; try dsimp only [KSo.at_, KSo.limit, KSo.failed, KSo.bytes, KSo.mk])
    | (refine OE.bind (oe_Rd_readGlobals hfg hN (by omega) (by omega) (by omega) _) ?_; rintro ⟨_, _⟩ ⟨_, _⟩ ⟨⟨a9, L9, b9, h1, h2, h3, h4, h5⟩, h6⟩; dsimp only at h1 h2 h6; subst h1 h2 h6; try dsimp only [KSo.at_, KSo.limit, KSo.failed, KSo.bytes, KSo.mk])
    | (refine OE.bind (oeL52_Rd_readExports hfg hN _ _ _ _ _ _ _ (by omega) (by omega) (by omega)) ?_; rintro ⟨_, _⟩ ⟨_, _⟩ ⟨⟨a9, L9, b9, h1, h2, h3, h4, h5⟩, h6⟩; dsimp only at h1 h2 h6; subst h1 h2 h6; try dsimp only [KSo.at_, KSo.limit, KSo.failed, KSo.bytes, KSo.mk])
    | (refine OE.bind (oeL25_Rd_readExports hfg hN _ _ _ _ _ _ (by omega) (by omega) (by omega)) ?_; rintro ⟨_, _⟩ ⟨_, _⟩ ⟨⟨a9, L9, b9, h1, h2, h3, h4, h5⟩, h6⟩; dsimp only at h1 h2 h6; subst h1 h2 h6; try dsimp only [KSo.at_, KSo.limit, KSo.failed, KSo.bytes, KSo.mk])
    | (refine OE.bind (oe_Rd_readExports hfg hN (by omega) (by omega) (by omega) _) ?_; rintro ⟨_, _⟩ ⟨_, _⟩ ⟨⟨a9, L9, b9, h1, h2, h3, h4, h5⟩, h6⟩; dsimp only at h1 h2 h6; subst h1 h2 h6; try dsimp only [KSo.at_, KSo.limit, KSo.failed, KSo.bytes, KSo.mk])
    | (refine OE.bind (oe_Rd_readSection hfg hN (by omega) (by omega) (by omega) _ _ _ _ _ _ _ _ _ _ _) ?_; rintro ⟨_, _⟩ ⟨_, _⟩ ⟨⟨a9, L9, b9, h1, h2, h3, h4, h5⟩, h6⟩; dsimp only at h1 h2 h6; subst h1 h2 h6; try dsimp only [KSo.at_, KSo.limit, KSo.failed, KSo.bytes, KSo.mk])
    | (refine OE.bind (oeL63_Rd_reads hfg hN _ _ _ _ _ _ _ _ _ _ _ _ _ _ _ _ (by omega) (by omega) (by omega)) ?_; rintro ⟨_, _⟩ ⟨_, _⟩ ⟨⟨a9, L9, b9, h1, h2, h3, h4, h5⟩, h6⟩; dsimp only at h1 h2 h6; subst h1 h2 h6; try dsimp only [KSo.at_, KSo.limit, KSo.failed, KSo.bytes, KSo.mk])
    | (refine OE.bind (oeL29_Rd_reads hfg hN _ _ _ _ _ (by omega) (by omega) (by omega)) ?_; rintro ⟨_, _⟩ ⟨_, _⟩ ⟨⟨a9, L9, b9, h1, h2, h3, h4, h5⟩, h6⟩; dsimp only at h1 h2 h6; subst h1 h2 h6; try dsimp only [KSo.at_, KSo.limit, KSo.failed, KSo.bytes, KSo.mk])
    | (refine OE.same (fun _ => ?_)))
end ATP
