/-! AN ARRAY OF ARRAYS, its rows left out of the world; values that are references or null -/
section XXG
variable {p : Program} {l : Launch} {e : Env} {R : Room} {s : State} {m : MethodId} {args : Array Value} {below : List Frame} {meth : Method} {c : Code} {H : Heap} {locs : List Loc} {cells slots : Nat} {Q : State → Prop}
variable {G : va_G} {cl : List vw_C} {A : Nat → Prop} {ws : va_W} {cc : ByteArray} {own : String} {index : Nat} {pc : Nat} {ls : Array Slot} {rest : List Value}
theorem xx_grid0 (hexec : p.tables.exec = Jvm.exec) (hb : c.code = cc) (hown : s.vm.findClass own = some m.cls) (hclink : (Cond.classLink own index "[[I").before args s = true) (hover : gd_Ov s) (harr : (Cond.arrayClass .int).before args s = true)
    (hP : va_P G cl ws H) (hD : va_D A ws) (hS : va_S A s.heap H locs) (hA : ∀ q, s.heap.size ≤ q → A q) {n k : Int32} {N K : Nat} (hdg : decode cc pc = .ok (.multianewarray index 2, 4)) (hn : ¬ n < 0) (hk : ¬ k < 0) (hN : n.toNatClampNeg = N) (hK : k.toNatClampNeg = K) (hb1 : N * 4 ≤ 536870912) (hb2 : K * 4 ≤ 536870912)
    (hcells : cells + (1 + N) ≤ R.cells) (hslots : slots + (N + N * K) ≤ R.slots)
    (kk : ∀ (q : Nat) (H1 : Heap) (locs1 : List Loc), va_P G cl ws H1 → va_D A ws → va_S A s.heap H1 locs1 → W p l e R s m args below meth c H1 locs1 (cells + 1 + N) (slots + N + N * K) Q (F0 m (pc + 4) ls (.ref q :: rest))) : W p l e R s m args below meth c H locs cells slots Q (F0 m pc ls (.int k :: .int n :: rest)) := by
  subst hN; subst hK
  refine gd_multi hexec hb hown hclink hover harr hdg hn hk hb1 (by exact hb2) (by omega) hcells hslots (fun H1 cA comp L _ _ hat hL => ?_)
  refine kk H.size H1 (locs ++ L) (hP.kept (fun k x hx => hat.2.1 _ ((hP k x hx).lt))) hD ⟨Nat.le_trans hS.1 (by rw [hat.1]; omega), fun q h1 h2 => (hat.2.1 q (Nat.lt_of_lt_of_le h1 hS.1)).trans (hS.2.1 q h1 h2), fun q hq => ?_⟩
  rcases List.mem_append.mp hq with h | h
  · exact hS.2.2 q h
  · rw [hL q h]; exact hA _ hS.1
end XXG
theorem xx_narO {v : Value} (h : v.isRef = true) (n : String) : narrow (.object n) v = v := by cases v <;> simp_all [Value.isRef] <;> rfl
theorem xx_fitO {v : Value} (h : v.isRef = true) (n : String) : fits (.object n) v = true := by cases v <;> simp_all [Value.isRef] <;> rfl
theorem xx_narA {v : Value} (h : v.isRef = true) (t : FieldType) : narrow (.array t) v = v := by cases v <;> simp_all [Value.isRef] <;> rfl
theorem xx_fitA {v : Value} (h : v.isRef = true) (t : FieldType) : fits (.array t) v = true := by cases v <;> simp_all [Value.isRef] <;> rfl
