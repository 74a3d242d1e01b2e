/-! HANDLERS BY THE WORLD: the cell on its way is a cell of the world; a handler's type is its own class (found), or one that it hasn't (passed over) -/
section XXH
variable {p : Program} {l : Launch} {e : Env} {R : Room} {s : State} {m : MethodId} {args : Array Value} {below : List Frame} {meth : Method} {c : Code} {H : Heap} {locs : List Loc} {cells slots : Nat} {Q : State → Prop}
variable {G : va_G} {cl : List vw_C} {tys : xx_Tys} {ws : va_W} {own : String}
/-- what the search through the rows hh gives for a cell of class C -/
theorem xx_seek {T : State} (X : Stand p l e R s m args below meth c T locs cells slots) (hown : s.vm.findClass own = some m.cls) {C : String} {k0 : ClassId} (hC : ClassAt s C k0) {g : JFrame} (hg : g.method = m) {x : Addr} {cell : Cell} (hcell : T.heap[x]? = some cell) (hcls : cell.cls = k0) (hvm : cell.vm = .none) {h : Nat} :
    ∀ (hh : List (Nat × Nat × Nat × Nat)) (tbl : List ExceptionTableEntry) (u : State) (vm₀ : Vm), tbl.map (fun h => (h.startPc, h.endPc, h.handlerPc, h.catchType)) = hh → u = ((T.setTop g).pushFrame (.throwing x)).setVm vm₀ → s.WarmedH vm₀ →
      (∃ (pre : List (Nat × Nat × Nat × Nat)) (a b ct : Nat) (post : List (Nat × Nat × Nat × Nat)), hh = pre ++ (a, b, h, ct) :: post ∧ a ≤ g.pc ∧ g.pc < b ∧ ct ≠ 0 ∧ (Cond.classLink own ct C).before args s = true ∧
        ∀ q ∈ pre, q.1 ≤ g.pc ∧ g.pc < q.2.1 ∧ q.2.2.2 ≠ 0 ∧ ∃ nm : String, (Cond.classLink own q.2.2.2 nm).before args s = true ∧ va_Nc C nm s) →
      ∃ vm', s.WarmedH vm' ∧ ex_Go e g x tbl u (.found h) (((T.setTop g).pushFrame (.throwing x)).setVm vm') := by
  subst hg
  have hobj : ∀ k, cell.vm ≠ .statics k := fun k hk => by rw [hvm] at hk; cases hk
  obtain ⟨hfC, kC, hkC, -⟩ := hC
  intro hh tbl
  induction tbl generalizing hh with
  | nil =>
    intro u vm₀ hm _ _ ⟨pre, a, b, ct, post, he, _⟩
    subst hm
    cases pre <;> simp at he
  | cons y t ih =>
    intro u vm₀ hm hu hW ⟨pre, a, b, ct, post, he, h1, h2, h3, h4, h5⟩
    subst hm; subst hu
    cases pre with
    | nil =>
      simp only [List.map_cons, List.nil_append, List.cons.injEq, Prod.mk.injEq] at he
      obtain ⟨⟨rfl, rfl, rfl, rfl⟩, -⟩ := he
      obtain ⟨k, vm', hk, hW', hg', hz, hkk⟩ := ex_link X hown h4 hW
      cases hfC.symm.trans hk
      obtain ⟨kC', hkC', -⟩ := hW'.alike.2.2 _ _ hkC
      refine ⟨vm', hW', ?_⟩
      have e1 := ex_hit (e := e) (f := g) (a := x) (u := ((T.setTop g).pushFrame (.throwing x)).setVm vm₀) (x := y) (t := t) (k := k0) (cell := cell) (vm' := vm') (by simp [covers, h1, h2]) h3 hg' hz hcell hobj (by rw [hcls]; exact ⟨_, hkC'⟩) hkk (by rw [hcls]; exact va_asg _ _)
      exact e1
    | cons q pre =>
      simp only [List.map_cons, List.cons_append, List.cons.injEq] at he
      obtain ⟨rfl, he⟩ := he
      obtain ⟨g1, g2, g3, nm, g4, c1, c2, d1, d2, d3⟩ := h5 _ List.mem_cons_self
      obtain ⟨k, vm', hk, hW', hg', hz, hkk⟩ := ex_link X hown g4 hW
      cases d2.symm.trans hk
      cases hfC.symm.trans d1
      obtain ⟨kC', hkC', -⟩ := hW'.alike.2.2 _ _ hkC
      obtain ⟨vm2, hW2, hgo⟩ := ih _ _ vm' rfl rfl hW' ⟨pre, a, b, ct, post, he, h1, h2, h3, h4, fun q hq => h5 q (List.mem_cons_of_mem _ hq)⟩
      refine ⟨vm2, hW2, ?_⟩
      exact ex_miss (e := e) (f := g) (a := x) (x := y) (t := t) (k := c2) (cell := cell) (vm' := vm') (by simp [covers, g1, g2]) g3 hg' hz hcell hobj (by rw [hcls]; exact ⟨_, hkC'⟩) hkk (by rw [hcls, hW'.alike.assignable]; exact d3) hgo
theorem xx_caught {hh : List (Nat × Nat × Nat × Nat)} (hno : c.exceptionTable.toList.map (fun h => (h.startPc, h.endPc, h.handlerPc, h.catchType)) = hh) (hown : s.vm.findClass own = some m.cls) (hK : va_K G cl tys s) (hP : va_P G cl ws H) (q0 ci : Nat) {x : Addr} {fs : List Value} (hx : ws[q0]? = some (x, .inr (ci, fs))) {C : String} {Tt : u_T} {N : Nat} (hci : cl[ci]? = some (C, Tt, N))
    {pc h : Nat} {ls : Array Slot} {rest : List Value}
    (hs : ∃ (pre : List (Nat × Nat × Nat × Nat)) (a b ct : Nat) (post : List (Nat × Nat × Nat × Nat)), hh = pre ++ (a, b, h, ct) :: post ∧ a ≤ pc ∧ pc < b ∧ ct ≠ 0 ∧ (Cond.classLink own ct C).before args s = true ∧
        ∀ q ∈ pre, q.1 ≤ pc ∧ pc < q.2.1 ∧ q.2.2.2 ≠ 0 ∧ ∃ nm : String, (Cond.classLink own q.2.2.2 nm).before args s = true ∧ va_Nc C nm s)
    (k : W p l e R s m args below meth c H locs cells slots Q (F0 m h ls [.ref x])) : WT p l e R s m args below meth c H locs cells slots Q (F0 m pc ls rest) x := by
  obtain ⟨r, hr, cell, h1, h2, h3, -⟩ := hP q0 _ hx
  cases hci.symm.trans hr
  refine ex_caught rfl (fun T hT X => ?_) k
  exact xx_seek X hown (hK.1 ci _ hci).2 rfl (by rw [hT]; exact h1) h2 h3 hh _ _ T.vm hno rfl X.warmed hs
end XXH
