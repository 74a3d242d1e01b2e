/-! WORLDS WITH A TAIL: calls of static methods, and of methods with handlers -/
section XXT2
variable {p : Program} {l : Launch} {e : Env} {R : Room} {s : State} {m : MethodId} {args : Array Value} {below : List Frame} {meth : Method} {c : Code} {H : Heap} {locs : List Loc} {cells slots : Nat} {Q : State → Prop}
variable {G : va_G} {cl : List vw_C} {tys : xx_Tys} {E : (Nat → Prop) → State → Prop} {A : Nat → Prop} {ws wc wr : va_W} {post : Outcome → va_W → Prop}
variable {y : MethodName} {bytes cc : ByteArray} {maxL nL mc ms n index : Nat} {ret : Option FieldType} {wy : List Cond} {rm : Room} {Ts : List Cond} {own C : String} {b : Addr} {As rest st0 : List Value} {pc : Nat} {ls : Array Slot}
set_option maxRecDepth 20000 in
theorem xx_callSWA {hh : List (Nat × Nat × Nat × Nat)} {X pl : va_W} (S : CallFix p m c cc nL s args Ts own) (hSt : xx_St E) (hK : va_K G cl tys s) (hE : E A s) (hA : ∀ q, s.heap.size ≤ q → A q)
    (hM : MetX l y wy rm (XP G cl tys E As wc H.size) (XQ G cl (va_A wc H.size) post) mc ms (va_A wc H.size)) (cw : ex_CallB R s args own index y bytes maxL ret hh wy rm mc ms n ∧ (Cond.static y).before args s = true) (hP : va_P G cl (X ++ pl) H) (hD : va_D A (X ++ pl)) (hS : va_S A s.heap H locs)
    (isC isR : List Nat) (hC : isC.map (fun i => X[i]?) = wc.map some) (hR : isR.map (fun i => X[i]?) = wr.map some) (hnC : va_nd isC = true) (hn : va_nd isR = true) (hdis : ∀ i ∈ isR, i ∉ isC)
    (hlen : As.length = n) (hsize : ls.size = nL) (hst : st0 = As.reverse ++ rest) (hW : (rest.map fun v => v.category).sum ≤ 8) (hdg : decode cc pc = .ok (.invokestatic index, 3)) (hf : cells + mc ≤ R.cells ∧ slots + ms ≤ R.slots)
    (kR : ∀ (v : Option Value) (w1 : va_W) (H1 : Heap) (locs1 : List Loc), post (.returned v) w1 → va_P G cl ((wr ++ w1) ++ pl) H1 → va_D A ((wr ++ w1) ++ pl) → va_S A s.heap H1 locs1 → W p l e R s m args below meth c H1 locs1 (cells + mc) (slots + ms) Q (F0 m (pc + 3) ls (v.toList ++ rest)))
    (kT : ∀ (x : Addr) (w1 : va_W) (H1 : Heap) (locs1 : List Loc), post (.threw x) w1 → va_P G cl ((wr ++ w1) ++ pl) H1 → va_D A ((wr ++ w1) ++ pl) → va_S A s.heap H1 locs1 → WT p l e R s m args below meth c H1 locs1 (cells + mc) (slots + ms) Q (F0 m pc ls rest) x) : W p l e R s m args below meth c H locs cells slots Q (F0 m pc ls st0) :=
  xx_callSW (wr := wr ++ pl) S hSt hK hE hA hM cw hP hD hS isC (isR ++ tlR X.length pl.length) (tl_map hC) (by rw [List.map_append, tl_map hR, tl_rng rfl, ← List.map_append]) hnC (tl_app hn (tl_ndR _ _) (fun i h1 h2 => by have q1 := tl_lt hR i h1; have q2 := tl_mem h2; omega)) (fun i h1 h2 => by
    rcases List.mem_append.mp h1 with h | h
    · exact hdis i h h2
    · have q1 := tl_lt hC i h2; have q2 := tl_mem h; omega) hlen hsize hst hW hdg hf (fun v w1 H1 l1 hp h1 h2 h3 => kR v w1 H1 l1 hp h1.swap h2.swap h3) (fun x w1 H1 l1 hp h1 h2 h3 => kT x w1 H1 l1 hp h1.swap h2.swap h3)
set_option maxRecDepth 20000 in
theorem xx_callVWA {hh : List (Nat × Nat × Nat × Nat)} {X pl : va_W} (S : CallFix p m c cc nL s args Ts own) (hSt : xx_St E) (hK : va_K G cl tys s) (hE : E A s) (hA : ∀ q, s.heap.size ≤ q → A q)
    (hM : MetX l y wy rm (XP G cl tys E (.ref b :: As) wc H.size) (XQ G cl (va_A wc H.size) post) mc ms (va_A wc H.size)) (cw : ex_CallB R s args own index y bytes maxL ret hh wy rm mc ms n ∧ (Cond.instanceMethod y).before args s = true ∧ (Cond.selects C y y).before args s = true) (hP : va_P G cl (X ++ pl) H) (hD : va_D A (X ++ pl)) (hS : va_S A s.heap H locs)
    (isC isR : List Nat) (hC : isC.map (fun i => X[i]?) = wc.map some) (hR : isR.map (fun i => X[i]?) = wr.map some) (hnC : va_nd isC = true) (hn : va_nd isR = true) (hdis : ∀ i ∈ isR, i ∉ isC)
    (q0 ci : Nat) {q : vw_C} {fs : List Value} (hq0 : wc[q0]? = some (b, .inr (ci, fs))) (hcl : cl[ci]? = some q) (hqC : q.1 = C)
    (hlen : As.length = n) (hsize : ls.size = nL) (hst : st0 = As.reverse ++ .ref b :: rest) (hW : (rest.map fun v => v.category).sum ≤ 8) (hdg : decode cc pc = .ok (.invokevirtual index, 3)) (hf : cells + mc ≤ R.cells ∧ slots + ms ≤ R.slots)
    (kR : ∀ (v : Option Value) (w1 : va_W) (H1 : Heap) (locs1 : List Loc), post (.returned v) w1 → va_P G cl ((wr ++ w1) ++ pl) H1 → va_D A ((wr ++ w1) ++ pl) → va_S A s.heap H1 locs1 → W p l e R s m args below meth c H1 locs1 (cells + mc) (slots + ms) Q (F0 m (pc + 3) ls (v.toList ++ rest)))
    (kT : ∀ (x : Addr) (w1 : va_W) (H1 : Heap) (locs1 : List Loc), post (.threw x) w1 → va_P G cl ((wr ++ w1) ++ pl) H1 → va_D A ((wr ++ w1) ++ pl) → va_S A s.heap H1 locs1 → WT p l e R s m args below meth c H1 locs1 (cells + mc) (slots + ms) Q (F0 m pc ls rest) x) : W p l e R s m args below meth c H locs cells slots Q (F0 m pc ls st0) :=
  xx_callVW (wr := wr ++ pl) S hSt hK hE hA hM cw hP hD hS isC (isR ++ tlR X.length pl.length) (tl_map hC) (by rw [List.map_append, tl_map hR, tl_rng rfl, ← List.map_append]) hnC (tl_app hn (tl_ndR _ _) (fun i h1 h2 => by have q1 := tl_lt hR i h1; have q2 := tl_mem h2; omega)) (fun i h1 h2 => by
    rcases List.mem_append.mp h1 with h | h
    · exact hdis i h h2
    · have q1 := tl_lt hC i h2; have q2 := tl_mem h; omega) q0 ci hq0 hcl hqC hlen hsize hst hW hdg hf (fun v w1 H1 l1 hp h1 h2 h3 => kR v w1 H1 l1 hp h1.swap h2.swap h3) (fun x w1 H1 l1 hp h1 h2 h3 => kT x w1 H1 l1 hp h1.swap h2.swap h3)
end XXT2
set_option maxRecDepth 20000 in
theorem va_P.turn {G : va_G} {cl : List vw_C} {a b : va_W} {H : Heap} (h : va_P G cl (a ++ b) H) : va_P G cl (b ++ a) H := va_P.swap (a := []) h
set_option maxRecDepth 20000 in
theorem va_D.turn {A : Nat → Prop} {a b : va_W} (h : va_D A (a ++ b)) : va_D A (b ++ a) := va_D.swap (a := []) h
