/-! CONTRACTS IN ONE FORM: a start (XP) and an end (XQ) by lists of cells; E: what stands outside of every world and never changes (texts, tables) -/
abbrev xx_Tys : Type := List (ClassId × FieldType)
/-- E goes along with every step and into every callee -/
def xx_St (E : (Nat → Prop) → State → Prop) : Prop := ∀ (A A' : Nat → Prop) (s U : State) (H : Heap) (locs : List Loc), E A s → va_S A s.heap H locs → s.WarmedH U.vm → U.heap = H → (∀ q, A' q → A q) → E A' U
def XP (G : va_G) (cl : List vw_C) (tys : xx_Tys) (E : (Nat → Prop) → State → Prop) (av : List Value) (ws : va_W) (sz : Nat) : Array Value → State → Prop :=
  va_Pc av (fun U => U.heap.size = sz ∧ va_P G cl ws U.heap ∧ va_K G cl tys U ∧ va_D (fun _ => True) ws ∧ E (va_A ws sz) U)
def XQ (G : va_G) (cl : List vw_C) (A : Nat → Prop) (post : Outcome → va_W → Prop) : Array Value → State → Outcome → State → Prop := fun _ st o t => (∃ w1 : va_W, post o w1 ∧ va_P G cl w1 t.heap ∧ va_D A w1) ∧ va_F A st t
theorem xx_blind {G : va_G} {cl : List vw_C} {tys : xx_Tys} {E : (Nat → Prop) → State → Prop} {av : List Value} {ws : va_W} {sz : Nat} (hE : xx_St E) : FrameBlind (XP G cl tys E av ws sz) := by
  intro a U g mk q
  obtain ⟨q0, q1, qP, qK, qD, qE⟩ := q
  exact ⟨q0, q1, qP, va_K.moved (u := U) (U := U.calling g mk a) (Vm.Alike.refl U.vm) qK, qD, hE _ _ U (U.calling g mk a) U.heap [] qE va_S.rf (State.WarmedH.refl U) rfl (fun _ h => h)⟩
theorem xx_fm {α β : Type} {f : α → Option β} {l : List α} {w : List β} (h : l.map f = w.map some) : l.filterMap f = w := by
  induction l generalizing w with
  | nil =>
    cases w with
    | nil => rfl
    | cons b w => simp at h
  | cons a l ih =>
    cases w with
    | nil => simp at h
    | cons b w =>
      simp only [List.map_cons, List.cons.injEq] at h
      simp [List.filterMap_cons, h.1, ih h.2]
theorem xx_pre {G : va_G} {cl : List vw_C} {tys : xx_Tys} {E : (Nat → Prop) → State → Prop} {av : List Value} {wc ws : va_W} {A : Nat → Prop} {s U : State} {H : Heap} {locs : List Loc} (hSt : xx_St E) (hK : va_K G cl tys s) (hE : E A s) (hA : ∀ q, s.heap.size ≤ q → A q) (hP : va_P G cl ws H) (hD : va_D A ws) (hS : va_S A s.heap H locs)
    (isC : List Nat) (hC : isC.map (fun i => ws[i]?) = wc.map some) (hnC : va_nd isC = true) (hU : U.heap = H) (hW : s.WarmedH U.vm) : XP G cl tys E av wc H.size av.toArray U :=
  ⟨rfl, by rw [hU], by rw [hU]; exact hP.sub isC (xx_fm hC), va_K.moved hW.alike hK, (hD.sub isC hnC hC).weaken (fun _ _ _ _ => trivial), hSt _ _ s U H locs hE hS hW hU (va_free hD hS hA isC hC)⟩
theorem xx_F {G : va_G} {cl : List vw_C} {A : Nat → Prop} {post : Outcome → va_W → Prop} {a : Array Value} {st t : State} {o : Outcome} (h : XQ G cl A post a st o t) : va_F A st t := h.2
section XXC
variable {p : Program} {l : Launch} {e : Env} {R : Room} {s : State} {m : MethodId} {args : Array Value} {below : List Frame} {meth : Method} {c : Code} {H : Heap} {locs : List Loc} {cells slots : Nat} {Q : State → Prop}
variable {G : va_G} {cl : List vw_C} {tys : xx_Tys} {E : (Nat → Prop) → State → Prop} {A : Nat → Prop} {ws wc wr : va_W} {post : Outcome → va_W → Prop}
variable {y : MethodName} {bytes cc : ByteArray} {maxL nL mc ms n index : Nat} {ret : Option FieldType} {wy : List Cond} {rm : Room} {Ts : List Cond} {own C : String} {b : Addr} {As rest st0 : List Value} {pc : Nat} {ls : Array Slot}
/-- behind a call: the rest of the world beside the callee's -/
theorem xx_back {a : Array Value} (hr : ex_Run p l e R s m args below meth c H locs cells slots mc ms (F0 m pc ls st0) rest (XQ G cl (va_A wc H.size) post a) (va_A wc H.size)) (hA : ∀ q, s.heap.size ≤ q → A q) (hP : va_P G cl ws H) (hD : va_D A ws) (hS : va_S A s.heap H locs)
    (isC isR : List Nat) (hC : isC.map (fun i => ws[i]?) = wc.map some) (hR : isR.map (fun i => ws[i]?) = wr.map some) (hn : va_nd isR = true) (hdis : ∀ i ∈ isR, i ∉ isC)
    (kR : ∀ (v : Option Value) (w1 : va_W) (H1 : Heap) (locs1 : List Loc), post (.returned v) w1 → va_P G cl (wr ++ w1) H1 → va_D A (wr ++ w1) → va_S A s.heap H1 locs1 → W p l e R s m args below meth c H1 locs1 (cells + mc) (slots + ms) Q (F0 m (pc + 3) ls (v.toList ++ rest)))
    (kT : ∀ (x : Addr) (w1 : va_W) (H1 : Heap) (locs1 : List Loc), post (.threw x) w1 → va_P G cl (wr ++ w1) H1 → va_D A (wr ++ w1) → va_S A s.heap H1 locs1 → WT p l e R s m args below meth c H1 locs1 (cells + mc) (slots + ms) Q (F0 m pc ls rest) x) : W p l e R s m args below meth c H locs cells slots Q (F0 m pc ls st0) := by
  have hFc := va_free hD hS hA isC hC
  refine ex_call (A1 := va_A wc H.size) hr hS (fun q _ h => hFc q h) hFc (fun _ _ _ h => xx_F h) ?_ ?_
  · intro v st₀ t H1 locs1 h0 ht _ hq _ hk hS1
    obtain ⟨⟨w1, hp, hP1, hD1⟩, -⟩ := hq
    rw [ht] at hP1
    obtain ⟨hP2, hD2⟩ := va_join hP hD isC isR hC hR hn hdis hk hFc hP1 hD1
    exact kR v w1 H1 locs1 hp hP2 hD2 hS1
  · intro x st₀ t H1 locs1 h0 ht _ hq _ hk hS1
    obtain ⟨⟨w1, hp, hP1, hD1⟩, -⟩ := hq
    rw [ht] at hP1
    obtain ⟨hP2, hD2⟩ := va_join hP hD isC isR hC hR hn hdis hk hFc hP1 hD1
    exact kT x w1 H1 locs1 hp hP2 hD2 hS1
theorem xx_callV (S : CallFix p m c cc nL s args Ts own) (hSt : xx_St E) (hK : va_K G cl tys s) (hE : E A s) (hA : ∀ q, s.heap.size ≤ q → A q)
    (hM : MetX l y wy rm (XP G cl tys E (.ref b :: As) wc H.size) (XQ G cl (va_A wc H.size) post) mc ms (va_A wc H.size)) (cw : CallW R s args own C index y bytes maxL ret wy rm mc ms n) (hP : va_P G cl ws H) (hD : va_D A ws) (hS : va_S A s.heap H locs)
    (isC isR : List Nat) (hC : isC.map (fun i => ws[i]?) = wc.map some) (hR : isR.map (fun i => ws[i]?) = wr.map some) (hnC : va_nd isC = true) (hn : va_nd isR = true) (hdis : ∀ i ∈ isR, i ∉ isC)
    (q0 ci : Nat) {q : vw_C} {fs : List Value} (hq0 : wc[q0]? = some (b, .inr (ci, fs))) (hcl : cl[ci]? = some q) (hqC : q.1 = C)
    (hlen : As.length = n) (hsize : ls.size = nL) (hst : st0 = As.reverse ++ .ref b :: rest) (hW : (rest.map fun v => v.category).sum ≤ 8) (hdg : decode cc pc = .ok (.invokevirtual index, 3)) (hf : cells + mc ≤ R.cells ∧ slots + ms ≤ R.slots)
    (kR : ∀ (v : Option Value) (w1 : va_W) (H1 : Heap) (locs1 : List Loc), post (.returned v) w1 → va_P G cl (wr ++ w1) H1 → va_D A (wr ++ w1) → va_S A s.heap H1 locs1 → W p l e R s m args below meth c H1 locs1 (cells + mc) (slots + ms) Q (F0 m (pc + 3) ls (v.toList ++ rest)))
    (kT : ∀ (x : Addr) (w1 : va_W) (H1 : Heap) (locs1 : List Loc), post (.threw x) w1 → va_P G cl (wr ++ w1) H1 → va_D A (wr ++ w1) → va_S A s.heap H1 locs1 → WT p l e R s m args below meth c H1 locs1 (cells + mc) (slots + ms) Q (F0 m pc ls rest) x) : W p l e R s m args below meth c H locs cells slots Q (F0 m pc ls st0) := by
  subst hqC
  exact xx_back (ex_runV (g := F0 m pc ls st0) S hM cw ⟨xx_blind hSt, va_recv hK (hP.sub isC (xx_fm hC)) hcl hq0, fun U hU hW => xx_pre hSt hK hE hA hP hD hS isC hC hnC hU hW⟩ rfl hlen hsize hst (by show 2 * 0 + _ ≤ 8; omega) hdg hf) hA hP hD hS isC isR hC hR hn hdis kR kT
theorem xx_callS (S : CallFix p m c cc nL s args Ts own) (hSt : xx_St E) (hK : va_K G cl tys s) (hE : E A s) (hA : ∀ q, s.heap.size ≤ q → A q)
    (hM : MetX l y wy rm (XP G cl tys E As wc H.size) (XQ G cl (va_A wc H.size) post) mc ms (va_A wc H.size)) (cw : CallB R s args own index y bytes maxL ret wy rm mc ms n ∧ (Cond.static y).before args s = true) (hP : va_P G cl ws H) (hD : va_D A ws) (hS : va_S A s.heap H locs)
    (isC isR : List Nat) (hC : isC.map (fun i => ws[i]?) = wc.map some) (hR : isR.map (fun i => ws[i]?) = wr.map some) (hnC : va_nd isC = true) (hn : va_nd isR = true) (hdis : ∀ i ∈ isR, i ∉ isC)
    (hlen : As.length = n) (hsize : ls.size = nL) (hst : st0 = As.reverse ++ rest) (hW : (rest.map fun v => v.category).sum ≤ 8) (hdg : decode cc pc = .ok (.invokestatic index, 3)) (hf : cells + mc ≤ R.cells ∧ slots + ms ≤ R.slots)
    (kR : ∀ (v : Option Value) (w1 : va_W) (H1 : Heap) (locs1 : List Loc), post (.returned v) w1 → va_P G cl (wr ++ w1) H1 → va_D A (wr ++ w1) → va_S A s.heap H1 locs1 → W p l e R s m args below meth c H1 locs1 (cells + mc) (slots + ms) Q (F0 m (pc + 3) ls (v.toList ++ rest)))
    (kT : ∀ (x : Addr) (w1 : va_W) (H1 : Heap) (locs1 : List Loc), post (.threw x) w1 → va_P G cl (wr ++ w1) H1 → va_D A (wr ++ w1) → va_S A s.heap H1 locs1 → WT p l e R s m args below meth c H1 locs1 (cells + mc) (slots + ms) Q (F0 m pc ls rest) x) : W p l e R s m args below meth c H locs cells slots Q (F0 m pc ls st0) :=
  xx_back (ex_runS (g := F0 m pc ls st0) S hM cw ⟨xx_blind hSt, fun U hU hW => xx_pre hSt hK hE hA hP hD hS isC hC hnC hU hW⟩ rfl hlen hsize hst (by show 2 * 0 + _ ≤ 8; omega) hdg hf) hA hP hD hS isC isR hC hR hn hdis kR kT
theorem xx_callI (S : CallFix p m c cc nL s args Ts own) (hSt : xx_St E) (hK : va_K G cl tys s) (hE : E A s) (hA : ∀ q, s.heap.size ≤ q → A q)
    (hM : MetX l y wy rm (XP G cl tys E (.ref b :: As) wc H.size) (XQ G cl (va_A wc H.size) post) mc ms (va_A wc H.size)) (cw : CallB R s args own index y bytes maxL none wy rm mc ms n ∧ y.name = "<init>" ∧ (Cond.instanceMethod y).before args s = true) (hP : va_P G cl ws H) (hD : va_D A ws) (hS : va_S A s.heap H locs)
    (isC isR : List Nat) (hC : isC.map (fun i => ws[i]?) = wc.map some) (hR : isR.map (fun i => ws[i]?) = wr.map some) (hnC : va_nd isC = true) (hn : va_nd isR = true) (hdis : ∀ i ∈ isR, i ∉ isC)
    (hlen : As.length = n) (hsize : ls.size = nL) (hst : st0 = As.reverse ++ .ref b :: rest) (hW : (rest.map fun v => v.category).sum ≤ 8) (hdg : decode cc pc = .ok (.invokespecial index, 3)) (hf : cells + mc ≤ R.cells ∧ slots + ms ≤ R.slots)
    (kR : ∀ (v : Option Value) (w1 : va_W) (H1 : Heap) (locs1 : List Loc), post (.returned v) w1 → va_P G cl (wr ++ w1) H1 → va_D A (wr ++ w1) → va_S A s.heap H1 locs1 → W p l e R s m args below meth c H1 locs1 (cells + mc) (slots + ms) Q (F0 m (pc + 3) ls (v.toList ++ rest)))
    (kT : ∀ (x : Addr) (w1 : va_W) (H1 : Heap) (locs1 : List Loc), post (.threw x) w1 → va_P G cl (wr ++ w1) H1 → va_D A (wr ++ w1) → va_S A s.heap H1 locs1 → WT p l e R s m args below meth c H1 locs1 (cells + mc) (slots + ms) Q (F0 m pc ls rest) x) : W p l e R s m args below meth c H locs cells slots Q (F0 m pc ls st0) :=
  xx_back (ex_runI (g := F0 m pc ls st0) S hM cw ⟨xx_blind hSt, fun U hU hW => xx_pre hSt hK hE hA hP hD hS isC hC hnC hU hW⟩ rfl hlen hsize hst (by show 2 * 0 + _ ≤ 8; omega) hdg hf) hA hP hD hS isC isR hC hR hn hdis kR kT
theorem xx_callIN {host : String} (S : CallFix p m c cc nL s args Ts own) (hSt : xx_St E) (hK : va_K G cl tys s) (hE : E A s) (hA : ∀ q, s.heap.size ≤ q → A q)
    (hM : MetX l y wy rm (XP G cl tys E (.ref b :: As) wc H.size) (XQ G cl (va_A wc H.size) post) mc ms (va_A wc H.size)) (cw : ex_CallN R s args own index y host bytes maxL wy rm mc ms n ∧ y.name = "<init>" ∧ (Cond.instanceMethod y).before args s = true) (hP : va_P G cl ws H) (hD : va_D A ws) (hS : va_S A s.heap H locs)
    (isC isR : List Nat) (hC : isC.map (fun i => ws[i]?) = wc.map some) (hR : isR.map (fun i => ws[i]?) = wr.map some) (hnC : va_nd isC = true) (hn : va_nd isR = true) (hdis : ∀ i ∈ isR, i ∉ isC)
    (hlen : As.length = n) (hsize : ls.size = nL) (hst : st0 = As.reverse ++ .ref b :: rest) (hW : (rest.map fun v => v.category).sum ≤ 8) (hdg : decode cc pc = .ok (.invokespecial index, 3)) (hf : cells + mc ≤ R.cells ∧ slots + ms ≤ R.slots)
    (kR : ∀ (v : Option Value) (w1 : va_W) (H1 : Heap) (locs1 : List Loc), post (.returned v) w1 → va_P G cl (wr ++ w1) H1 → va_D A (wr ++ w1) → va_S A s.heap H1 locs1 → W p l e R s m args below meth c H1 locs1 (cells + mc) (slots + ms) Q (F0 m (pc + 3) ls (v.toList ++ rest)))
    (kT : ∀ (x : Addr) (w1 : va_W) (H1 : Heap) (locs1 : List Loc), post (.threw x) w1 → va_P G cl (wr ++ w1) H1 → va_D A (wr ++ w1) → va_S A s.heap H1 locs1 → WT p l e R s m args below meth c H1 locs1 (cells + mc) (slots + ms) Q (F0 m pc ls rest) x) : W p l e R s m args below meth c H locs cells slots Q (F0 m pc ls st0) :=
  xx_back (ex_runIN (g := F0 m pc ls st0) S hM cw ⟨xx_blind hSt, fun U hU hW => xx_pre hSt hK hE hA hP hD hS isC hC hnC hU hW⟩ rfl hlen hsize hst (by show 2 * 0 + _ ≤ 8; omega) hdg hf) hA hP hD hS isC isR hC hR hn hdis kR kT
theorem xx_callSW {hh : List (Nat × Nat × Nat × Nat)} (S : CallFix p m c cc nL s args Ts own) (hSt : xx_St E) (hK : va_K G cl tys s) (hE : E A s) (hA : ∀ q, s.heap.size ≤ q → A q)
    (hM : MetX l y wy rm (XP G cl tys E As wc H.size) (XQ G cl (va_A wc H.size) post) mc ms (va_A wc H.size)) (cw : ex_CallB R s args own index y bytes maxL ret hh wy rm mc ms n ∧ (Cond.static y).before args s = true) (hP : va_P G cl ws H) (hD : va_D A ws) (hS : va_S A s.heap H locs)
    (isC isR : List Nat) (hC : isC.map (fun i => ws[i]?) = wc.map some) (hR : isR.map (fun i => ws[i]?) = wr.map some) (hnC : va_nd isC = true) (hn : va_nd isR = true) (hdis : ∀ i ∈ isR, i ∉ isC)
    (hlen : As.length = n) (hsize : ls.size = nL) (hst : st0 = As.reverse ++ rest) (hW : (rest.map fun v => v.category).sum ≤ 8) (hdg : decode cc pc = .ok (.invokestatic index, 3)) (hf : cells + mc ≤ R.cells ∧ slots + ms ≤ R.slots)
    (kR : ∀ (v : Option Value) (w1 : va_W) (H1 : Heap) (locs1 : List Loc), post (.returned v) w1 → va_P G cl (wr ++ w1) H1 → va_D A (wr ++ w1) → va_S A s.heap H1 locs1 → W p l e R s m args below meth c H1 locs1 (cells + mc) (slots + ms) Q (F0 m (pc + 3) ls (v.toList ++ rest)))
    (kT : ∀ (x : Addr) (w1 : va_W) (H1 : Heap) (locs1 : List Loc), post (.threw x) w1 → va_P G cl (wr ++ w1) H1 → va_D A (wr ++ w1) → va_S A s.heap H1 locs1 → WT p l e R s m args below meth c H1 locs1 (cells + mc) (slots + ms) Q (F0 m pc ls rest) x) : W p l e R s m args below meth c H locs cells slots Q (F0 m pc ls st0) :=
  xx_back (ex_runSW (g := F0 m pc ls st0) S hM cw ⟨xx_blind hSt, fun U hU hW => xx_pre hSt hK hE hA hP hD hS isC hC hnC hU hW⟩ rfl hlen hsize hst (by show 2 * 0 + _ ≤ 8; omega) hdg hf) hA hP hD hS isC isR hC hR hn hdis kR kT
theorem xx_callVW {hh : List (Nat × Nat × Nat × Nat)} (S : CallFix p m c cc nL s args Ts own) (hSt : xx_St E) (hK : va_K G cl tys s) (hE : E A s) (hA : ∀ q, s.heap.size ≤ q → A q)
    (hM : MetX l y wy rm (XP G cl tys E (.ref b :: As) wc H.size) (XQ G cl (va_A wc H.size) post) mc ms (va_A wc H.size)) (cw : ex_CallB R s args own index y bytes maxL ret hh wy rm mc ms n ∧ (Cond.instanceMethod y).before args s = true ∧ (Cond.selects C y y).before args s = true) (hP : va_P G cl ws H) (hD : va_D A ws) (hS : va_S A s.heap H locs)
    (isC isR : List Nat) (hC : isC.map (fun i => ws[i]?) = wc.map some) (hR : isR.map (fun i => ws[i]?) = wr.map some) (hnC : va_nd isC = true) (hn : va_nd isR = true) (hdis : ∀ i ∈ isR, i ∉ isC)
    (q0 ci : Nat) {q : vw_C} {fs : List Value} (hq0 : wc[q0]? = some (b, .inr (ci, fs))) (hcl : cl[ci]? = some q) (hqC : q.1 = C)
    (hlen : As.length = n) (hsize : ls.size = nL) (hst : st0 = As.reverse ++ .ref b :: rest) (hW : (rest.map fun v => v.category).sum ≤ 8) (hdg : decode cc pc = .ok (.invokevirtual index, 3)) (hf : cells + mc ≤ R.cells ∧ slots + ms ≤ R.slots)
    (kR : ∀ (v : Option Value) (w1 : va_W) (H1 : Heap) (locs1 : List Loc), post (.returned v) w1 → va_P G cl (wr ++ w1) H1 → va_D A (wr ++ w1) → va_S A s.heap H1 locs1 → W p l e R s m args below meth c H1 locs1 (cells + mc) (slots + ms) Q (F0 m (pc + 3) ls (v.toList ++ rest)))
    (kT : ∀ (x : Addr) (w1 : va_W) (H1 : Heap) (locs1 : List Loc), post (.threw x) w1 → va_P G cl (wr ++ w1) H1 → va_D A (wr ++ w1) → va_S A s.heap H1 locs1 → WT p l e R s m args below meth c H1 locs1 (cells + mc) (slots + ms) Q (F0 m pc ls rest) x) : W p l e R s m args below meth c H locs cells slots Q (F0 m pc ls st0) := by
  subst hqC
  exact xx_back (ex_runVW (g := F0 m pc ls st0) S hM cw ⟨xx_blind hSt, va_recv hK (hP.sub isC (xx_fm hC)) hcl hq0, fun U hU hW => xx_pre hSt hK hE hA hP hD hS isC hC hnC hU hW⟩ rfl hlen hsize hst (by show 2 * 0 + _ ≤ 8; omega) hdg hf) hA hP hD hS isC isR hC hR hn hdis kR kT
/-- a new array whose class the tables know -/
theorem xx_newa (hexec : p.tables.exec = Jvm.exec) (hb : c.code = cc) {atype : ArrayType} {ty : FieldType} (hty : newarray.typeOf atype = ty) (hK : va_K G cl tys s) (harr : (Cond.arrayClass ty).before args s = true) (t0 : Nat) {cA : ClassId} (ht : tys[t0]? = some (cA, ty)) (hP : va_P G cl ws H) (hD : va_D A ws) (hS : va_S A s.heap H locs) (hA : ∀ q, s.heap.size ≤ q → A q)
    {n : Int32} {N' : Nat} {a0 : vp_A} (ha : ∀ cA : ClassId, vp_cell cA a0 = arrV cA N' (fun _ => defaultValue ty)) (hn : ¬ n < 0) (hN : n.toNatClampNeg = N') (hbytes : N' * componentBytes ty ≤ 536870912) (hcells : cells + 1 ≤ R.cells) (hslots : slots + N' ≤ R.slots) (hdg : decode cc pc = .ok (.newarray atype, 2))
    (kk : ∀ (q : Nat) (H1 : Heap), va_P G cl (ws ++ [(q, .inl (cA, a0))]) H1 → va_D A (ws ++ [(q, .inl (cA, a0))]) → va_S A s.heap H1 locs →
      W p l e R s m args below meth c H1 locs (cells + 1) (slots + N') Q (F0 m (pc + 2) ls (.ref q :: rest))) : W p l e R s m args below meth c H locs cells slots Q (F0 m pc ls (.int n :: rest)) := by
  subst hty
  refine va_newaK hexec hb harr rfl hdg rfl hn hN hbytes hcells hslots rfl fun H1 cB e1 z1 o1 hAr hNm => ?_
  have hcc : cB = cA := by
    have h1 : va_RA s cA (newarray.typeOf atype) := (hK.2 t0 _ ht).2
    have h2 : s.vm.findClass ("[" ++ (newarray.typeOf atype).toString) = some cA := by cases atype <;> exact h1
    exact Option.some.inj (hNm.symm.trans h2)
  subst hcc
  have hk : ∀ (k : Nat) (x : Nat × va_E), ws[k]? = some x → H1[x.1]? = H[x.1]? := fun k x hx => o1 x.1 ((hP k x hx).lt)
  refine kk H.size H1 ((hP.kept hk).app (fun k x hx => ?_)) (hD.push hP rfl (hA _ hS.1)) ⟨Nat.le_trans hS.1 (by omega), fun x h1 h2 => (o1 x (Nat.lt_of_lt_of_le h1 hS.1)).trans (hS.2.1 x h1 h2), hS.2.2⟩
  have hz : k < 1 := (List.getElem?_eq_some_iff.mp hx).1
  rw [show k = 0 by omega] at hx
  cases hx
  show H1[H.size]? = some (vp_cell _ _)
  rw [ha]
  exact e1
/-- no cell of a world is a row of statics -/
theorem xx_nostat {s : State} {ws : va_W} (hP : va_P G cl ws s.heap) : ∀ q, va_A ws s.heap.size q → ∀ cell, s.heap[q]? = some cell → cell.vm.isStatics = false := by
  intro q hq cell hc
  rcases hq with ⟨k, x, hx⟩ | hq
  · have h := hP k _ hx
    cases x with
    | inl a =>
      have h1 : s.heap[q]? = some (vp_cell a.1 a.2) := h
      cases hc.symm.trans h1
      obtain ⟨a1, n, v⟩ := a
      rcases v with v | v | v | v | v <;> rfl
    | inr o =>
      obtain ⟨r, -, c2, h1, -, h3, -⟩ := h
      cases hc.symm.trans h1
      rw [h3]; rfl
  · have h1 := (Array.getElem?_eq_some_iff.mp hc).1
    omega
set_option maxHeartbeats 2000000 in
/-- throw new X("..") -/
theorem xx_throwNew (hexec : p.tables.exec = Jvm.exec) (htr : e.platform.stackTraces = false) (hb : c.code = cc) (hml : c.maxLocals = nL) (hown : s.vm.findClass own = some m.cls) {cls tx : String} {names : List String} {ic icl idx qs : Nat}
    (hcl : (Cond.classLink own icl cls).before args s = true) (hinst : (Cond.instantiable cls 6).before args s = true) (hini : (Cond.initialized cls).before args s = true) (hZ : vk_R own idx tx qs s) (hat : ∀ a ∈ Bundle.ownAtoms own ic cls names, a.before args s = true) (hcls : Bundle.fit cls = true) (hnames : ∀ n ∈ names, Bundle.fit n = true)
    (hK : va_K G cl tys s) (ci : Nat) {T : u_T} (hci : cl[ci]? = some (cls, T, 0)) (hP : va_P G cl ws H) (hD : va_D A ws) (hS : va_S A s.heap H locs) (hA : ∀ q, s.heap.size ≤ q → A q) (hNS : ∀ q, A q → ∀ cell, s.heap[q]? = some cell → cell.vm.isStatics = false)
    (hls : ls.size = nL) (d0 : decode cc pc = .ok (.new icl, 3)) (d1 : decode cc (pc + 3) = .ok (.dup, 1)) (d2 : decode cc (pc + 4) = .ok (.ldc idx, 2)) (d3 : decode cc (pc + 6) = .ok (.invokespecial ic, 3)) (d4 : decode cc (pc + 9) = .ok (.athrow, 1))
    (hcells : cells + 1 ≤ R.cells) (hslots : slots + 6 ≤ R.slots) (hRf : names.length + 3 < R.frames) (hRl : 1 + (rest.map fun v => v.category).sum + (13 * (names.length + 1) + 42) ≤ R.locals)
    (kk : ∀ (x : Nat) (H1 : Heap) (locs1 : List Loc), va_P G cl (ws ++ [(x, .inr (ci, []))]) H1 → va_D A (ws ++ [(x, .inr (ci, []))]) → va_S A s.heap H1 locs1 → WT p l e R s m args below meth c H1 locs1 (cells + 1) (slots + 6) Q (F0 m (pc + 9) ls rest) x) : W p l e R s m args below meth c H locs cells slots Q (F0 m pc ls rest) := by
  refine ex_new hexec hb hown hcl hinst hini hP hS hcells hslots d0 (fun a cX kX H1 hf hk hc ha hz ho hP1 hS1 => ?_)
  refine lv_dup hexec hb d1 rfl ?_
  refine va_ldcS hexec hb hown hZ d2 ?_
  refine ex_ctorS hexec htr hb hml hown hcls hnames hat (fun x hx cell h => hNS _ (hS1.2.2 x hx) cell h) hf hk hc ha rfl hls d3 hRf (by show 1 + _ + _ ≤ _; exact hRl) (fun H2 ce L h1 h2 h3 h4 h5 h6 => ?_)
  refine ex_athrow hexec hb d4 ?_
  have hlt : ∀ (k : Nat) (x : Nat × va_E), ws[k]? = some x → x.1 < a := fun k x hx => by have h := (hP k x hx).lt; omega
  have hKn := hK.1 ci _ hci
  have hcX : cX = G.1 ci := Option.some.inj (hf.symm.trans hKn.2.1)
  refine kk a H2 (locs ++ L) ((hP1.kept (fun k x hx => h5 x.1 (Nat.ne_of_lt (hlt k x hx)))).app (fun k x hx => ?_)) (hD.push hP hz.symm (hA _ ha)) ⟨by rw [h4]; exact hS1.1, fun q h7 h8 => ?_, fun q hq => ?_⟩
  · have hz : k < 1 := (List.getElem?_eq_some_iff.mp hx).1
    rw [show k = 0 by omega] at hx
    cases hx
    exact ⟨_, hci, ce, h1, by rw [h2]; exact hcX, h3, fun j hj => absurd hj (Nat.not_lt_zero _)⟩
  · rw [h5 q (Nat.ne_of_lt (Nat.lt_of_lt_of_le h7 ha))]
    exact hS1.2.1 q h7 h8
  · rcases List.mem_append.mp hq with h | h
    · exact hS1.2.2 q h
    · rw [h6 q h]; exact hA _ ha
end XXC
