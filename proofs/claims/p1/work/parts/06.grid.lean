/-! AN ARRAY OF ARRAYS IS MADE (multianewarray of two dimensions) -/
def gd_row (comp : ClassId) (k : Nat) (dv : Value) : Cell := { cls := comp, slots := Array.replicate k dv }
/-- a grid of n rows, i of them made: rows of k places behind the outer array at h0 -/
def gd_At (h0 n k : Nat) (cA comp : ClassId) (dv : Value) (H0 : Heap) (i : Nat) (U : Heap) : Prop :=
  U.size = h0 + 1 + i ∧ (∀ q, q < h0 → U[q]? = H0[q]?) ∧ (∃ sl : Array Value, U[h0]? = some { cls := cA, slots := sl } ∧ sl.size = n ∧ ∀ j, j < n → sl[j]? = some (if j < i then .ref (h0 + 1 + j) else .null)) ∧ ∀ j, j < i → U[h0 + 1 + j]? = some (gd_row comp k dv)
section GDA
variable {E : CtlPost} {e : Env} {d : Bool} {acts : List Action} {u : State}
theorem gd_make1 {comp cc : ClassId} {kc : Class} {ty : FieldType} {k : Int32} (hkc : u.vm.classes[comp]? = some kc) (hkind : kc.kind = .array cc ty) (hk : ¬ k < 0) (hl : ¬ k.toNatClampNeg > e.platform.arrayLengthLimit) (hh : ¬ k.toNatClampNeg * componentBytes ty > e.platform.maxHeapBytes) (hfit : fits ty (defaultValue ty) = true)
    (h1 : u.heap.size < e.platform.maxCells) (h2 : u.slotsUsed + k.toNatClampNeg ≤ e.platform.maxSlots) {Q : Addr → Pre} (hq : ∀ acts', Q u.heap.size d acts' (u.pushCell (gd_row comp k.toNatClampNeg (defaultValue ty)))) : wp (Op.multianewarray.make comp [k]) Q E e d acts u := by
  rw [Op.multianewarray.make]
  simp only [wp_bind', W.ite, hk, if_false, wp_pure', W.theClass, hkc, hkind, Option.some.injEq, exists_eq_left']
  exact W.newArray_of hkc hkind hl hh h1 h2 hfit hq
end GDA
section GDB
variable {p : Program} {l : Launch} {e : Env} {R : Room} {s : State} {m : MethodId} {args : Array Value} {below : List Frame} {meth : Method} {c : Code} {T : State} {locs : List Loc} {cells slots : Nat}
/-- one row more -/
theorem gd_more (X : Stand p l e R s m args below meth c T locs cells slots) {h0 n k i : Nat} {cA comp : ClassId} {dv : Value} {H0 : Heap} (h : gd_At h0 n k cA comp dv H0 i T.heap) (hi : i < n) :
    ∃ U : State, Stand p l e R s m args below meth c U (locs ++ [⟨h0, i⟩]) (cells + 1) (slots + k) ∧ gd_At h0 n k cA comp dv H0 (i + 1) U.heap ∧ U.vm = T.vm ∧ U.slotsUsed = T.slotsUsed + k ∧
      ∃ sl : Array Value, (T.pushCell (gd_row comp k dv)).heap[h0]? = some { cls := cA, slots := sl } ∧ sl.size = n ∧ U = (T.pushCell (gd_row comp k dv)).setCell h0 (({ cls := cA, slots := sl } : Cell).setSlot i (.ref (h0 + 1 + i))) := by
  obtain ⟨z, o, ⟨sl, hs, hn, hv⟩, hr⟩ := h
  have hlt : h0 < T.heap.size := by omega
  have hc : (T.pushCell (gd_row comp k dv)).heap[h0]? = some { cls := cA, slots := sl } := by rw [State.heap_pushCell_of_lt (h := hlt)]; exact hs
  have hk : (gd_row comp k dv).slots.size = k := by simp [gd_row]
  have Y := (X.pushed (gd_row comp k dv)).stored hc i (.ref (h0 + 1 + i))
  rw [hk] at Y
  have heap : ∀ q, ((T.pushCell (gd_row comp k dv)).setCell h0 (({ cls := cA, slots := sl } : Cell).setSlot i (.ref (h0 + 1 + i)))).heap[q]? = if q = h0 then some (({ cls := cA, slots := sl } : Cell).setSlot i (.ref (h0 + 1 + i))) else (T.pushCell (gd_row comp k dv)).heap[q]? := by
    intro q
    by_cases e1 : q = h0
    · subst e1
      rw [if_pos rfl]
      exact State.heap_setCell_self hc
    · rw [if_neg e1]
      exact State.heap_setCell_other (Ne.symm e1)
  refine ⟨_, Y, ⟨?_, ?_, ⟨sl.setIfInBounds i (.ref (h0 + 1 + i)), ?_, ?_, ?_⟩, ?_⟩, rfl, ?_, sl, hc, hn, rfl⟩
  · simp [State.setCell, State.pushCell]; omega
  · intro q hq
    rw [heap q, if_neg (by omega), State.heap_pushCell_of_lt _ _ (show q < T.heap.size by omega)]
    exact o q hq
  · rw [heap h0, if_pos rfl]; rfl
  · simp [hn]
  · intro j hj
    rw [Array.getElem?_setIfInBounds]
    by_cases e1 : i = j
    · subst e1
      rw [if_pos rfl, if_pos (by omega), if_pos (by omega)]
    · rw [if_neg e1, hv j hj]
      by_cases e2 : j < i
      · rw [if_pos e2, if_pos (by omega)]
      · rw [if_neg e2, if_neg (by omega)]
  · intro j hj
    rw [heap _, if_neg (by omega)]
    by_cases e1 : j = i
    · subst e1
      rw [← z]
      exact State.heap_pushCell_size _ _
    · rw [State.heap_pushCell_of_lt _ _ (show h0 + 1 + j < T.heap.size by omega)]
      exact hr j (by omega)
  · show (T.pushCell (gd_row comp k dv)).slotsUsed = _
    simp [State.pushCell, hk]
/-- the states that lead there -/
def gd_st (u : State) (h0 k : Nat) (comp : ClassId) (dv : Value) : Nat → State
  | 0 => u
  | i + 1 => ((gd_st u h0 k comp dv i).pushCell (gd_row comp k dv)).setCell h0 ((((gd_st u h0 k comp dv i).heap[h0]?).getD { cls := comp, slots := #[] }).setSlot i (.ref (h0 + 1 + i)))
theorem gd_grow {u : State} {h0 n k : Nat} {cA comp : ClassId} {dv : Value} {H0 : Heap} (Y0 : Stand p l e R s m args below meth c u (locs ++ []) (cells + 0) (slots + 0 * k)) (A0 : gd_At h0 n k cA comp dv H0 0 u.heap) {us : Nat} (hus : u.slotsUsed = us) :
    ∀ i, i ≤ n → ∃ L : List Loc, Stand p l e R s m args below meth c (gd_st u h0 k comp dv i) (locs ++ L) (cells + i) (slots + i * k) ∧ (∀ q ∈ L, q.base = h0) ∧ gd_At h0 n k cA comp dv H0 i (gd_st u h0 k comp dv i).heap ∧ (gd_st u h0 k comp dv i).vm = u.vm ∧ (gd_st u h0 k comp dv i).slotsUsed = us + i * k := by
  intro i
  induction i with
  | zero => exact fun _ => ⟨[], Y0, fun q h => (by cases h), A0, rfl, by simp [gd_st, hus]⟩
  | succ i ih =>
    intro hi
    obtain ⟨L, Y, hL, hU, hv, hu⟩ := ih (by omega)
    obtain ⟨V, Z, hV, hVv, hVu, sl, h1, h2, h3⟩ := gd_more Y hU (by omega)
    have hlt : h0 < (gd_st u h0 k comp dv i).heap.size := by rw [hU.1]; omega
    have hg : (gd_st u h0 k comp dv i).heap[h0]? = some { cls := cA, slots := sl } := by rw [← h1, State.heap_pushCell_of_lt (h := hlt)]
    have hVe : gd_st u h0 k comp dv (i + 1) = V := by rw [gd_st, hg, Option.getD_some, h3]
    rw [hVe]
    refine ⟨L ++ [⟨h0, i⟩], ?_, ?_, hV, hVv.trans hv, ?_⟩
    · rw [← List.append_assoc, ← Nat.add_assoc cells i 1, show slots + (i + 1) * k = slots + i * k + k by rw [Nat.succ_mul]; omega]
      exact Z
    · intro q hq
      rcases List.mem_append.mp hq with h | h
      · exact hL q h
      · rw [List.mem_singleton] at h; subst h; rfl
    · rw [hVu, hu, Nat.succ_mul]; omega
end GDB
section GDC
variable {p : Program} {l : Launch} {e : Env} {R : Room} {s : State} {m : MethodId} {args : Array Value} {below : List Frame} {meth : Method} {c : Code} {H : Heap} {locs : List Loc} {cells slots : Nat} {Q : State → Prop}
/-- an array of arrays by the tables -/
def gd_Ov (U : State) : Prop := ∃ (comp cA : ClassId) (k : Class), U.vm.findClass "[I" = some comp ∧ U.vm.classes[cA]? = some k ∧ k.kind = .array comp (.array .int) ∧ U.vm.findClass "[[I" = some cA
theorem gd_Ov.moved {u U : State} (hvm : u.vm.Alike U.vm) (h : gd_Ov u) : gd_Ov U := by
  obtain ⟨comp, cA, k, h1, h2, h3, h4⟩ := h
  obtain ⟨k', hk', he⟩ := hvm.2.2 _ _ h2
  exact ⟨comp, cA, k', by rw [hvm.findClass]; exact h1, hk', by rw [he]; exact h3, by rw [hvm.findClass]; exact h4⟩
set_option maxHeartbeats 2000000 in
theorem gd_multi {cc : ByteArray} (hexec : p.tables.exec = Jvm.exec) (hb : c.code = cc) {own : String} {index : Nat} (hown : s.vm.findClass own = some m.cls) (hclink : (Cond.classLink own index "[[I").before args s = true)
    (hover : gd_Ov s) (harr : (Cond.arrayClass .int).before args s = true) {pc : Nat} {ls : Array Slot} {rest : List Value} {n k : Int32} (hdg : decode cc pc = .ok (.multianewarray index 2, 4))
    (hn : ¬ n < 0) (hk : ¬ k < 0) (hb1 : n.toNatClampNeg * 4 ≤ 536870912) (hb2 : k.toNatClampNeg * componentBytes .int ≤ 536870912) (hb3 : k.toNatClampNeg ≤ 536870912)
    (hcells : cells + (1 + n.toNatClampNeg) ≤ R.cells) (hslots : slots + (n.toNatClampNeg + n.toNatClampNeg * k.toNatClampNeg) ≤ R.slots)
    (kk : ∀ (H1 : Heap) (cA comp : ClassId) (L : List Loc), s.vm.findClass "[[I" = some cA → s.vm.findClass "[I" = some comp → gd_At H.size n.toNatClampNeg k.toNatClampNeg cA comp (defaultValue .int) H n.toNatClampNeg H1 → (∀ q ∈ L, q.base = H.size) →
      W p l e R s m args below meth c H1 (locs ++ L) (cells + 1 + n.toNatClampNeg) (slots + n.toNatClampNeg + n.toNatClampNeg * k.toNatClampNeg) Q (F0 m (pc + 4) ls (.ref H.size :: rest))) : W p l e R s m args below meth c H locs cells slots Q (F0 m pc ls (.int k :: .int n :: rest)) := by
  intro T hT X
  subst hT; subst hb
  have hpl : e.platform.magicAccessors = ({} : Platform).magicAccessors := by rw [X.admits.platform]
  obtain ⟨comp, cA, kA, hcomp, hkA, hkindA, hnameA⟩ := hover
  obtain ⟨comp', kC, cD, hcomp', hkC, hkindC⟩ := Cond.arrayClass_spec harr
  have hcomp' : s.vm.findClass "[I" = some comp' := hcomp'
  have ecomp : comp' = comp := Option.some.inj (hcomp'.symm.trans hcomp)
  subst ecomp
  obtain ⟨c0, hfc0, hcl⟩ := Cond.classLink_spec hown hclink e.platform hpl
  cases hnameA.symm.trans hfc0
  obtain ⟨hg₁, hwarm₁, hready₁⟩ := State.classEntry (e := e) X.warmed hcl
  generalize T.vm.noted m.cls index (.cls cA) = vm₁ at hg₁ hwarm₁ hready₁
  obtain ⟨kA₁, hkA₁, heA⟩ := hwarm₁.alike.2.2 _ _ hkA
  obtain ⟨kC₁, hkC₁, heC⟩ := hwarm₁.alike.2.2 _ _ hkC
  have hkindA₁ : kA₁.kind = .array comp' (.array .int) := by rw [heA]; exact hkindA
  have hkindC₁ : kC₁.kind = .array cD .int := by rw [heC]; exact hkindC
  have X₁ := X.noted hwarm₁
  obtain ⟨hr1, hr2⟩ := X.roomAbove hcells hslots
  have hl1 : ¬ n.toNatClampNeg > e.platform.arrayLengthLimit := by rw [Launch.admits_arrayLengthLimit X.admits]; omega
  have hh1 : ¬ n.toNatClampNeg * componentBytes (.array .int) > e.platform.maxHeapBytes := by
    rw [Launch.admits_maxHeapBytes X.admits]; show ¬ n.toNatClampNeg * 4 > 536870912; omega
  have hl2 : ¬ k.toNatClampNeg > e.platform.arrayLengthLimit := by rw [Launch.admits_arrayLengthLimit X.admits]; omega
  have hh2 : ¬ k.toNatClampNeg * componentBytes .int > e.platform.maxHeapBytes := by rw [Launch.admits_maxHeapBytes X.admits]; omega
  -- the first state: the outer array, no row
  have Y0 : Stand p l e R s m args below meth c ((T.setVm vm₁).pushCell { cls := cA, slots := Array.replicate n.toNatClampNeg .null }) (locs ++ []) (cells + 1 + 0) (slots + n.toNatClampNeg + 0 * k.toNatClampNeg) := by
    have h := X₁.pushed ({ cls := cA, slots := Array.replicate n.toNatClampNeg .null } : Cell)
    simpa using h
  have A0 : gd_At T.heap.size n.toNatClampNeg k.toNatClampNeg cA comp' (defaultValue .int) T.heap 0 ((T.setVm vm₁).pushCell { cls := cA, slots := Array.replicate n.toNatClampNeg .null }).heap :=
    ⟨by simp [State.pushCell], fun q hq => State.heap_pushCell_of_lt _ _ hq, ⟨_, State.heap_pushCell_size _ _, by simp, fun j hj => by simp [hj]⟩, fun j hj => absurd hj (Nat.not_lt_zero _)⟩
  have U0 : ((T.setVm vm₁).pushCell ({ cls := cA, slots := Array.replicate n.toNatClampNeg .null } : Cell)).slotsUsed = T.slotsUsed + n.toNatClampNeg := by simp [State.pushCell]
  have grow := gd_grow Y0 A0 U0
  generalize hY : (T.setVm vm₁).pushCell ({ cls := cA, slots := Array.replicate n.toNatClampNeg .null } : Cell) = u at Y0 A0 U0 grow
  have hvm0 : u.vm = vm₁ := by rw [← hY]; rfl
  obtain ⟨L, Y, hL, hU, -, -⟩ := grow n.toNatClampNeg (Nat.le_refl _)
  obtain ⟨t, st, hq⟩ := kk (gd_st u T.heap.size k.toNatClampNeg comp' (defaultValue .int) n.toNatClampNeg).heap cA comp' L hnameA hcomp' hU hL _ rfl Y
  refine ⟨t, ?_, hq⟩
  have hfind : ([k].find? (· < 0)) = none := by simp [hk]
  have hsz : ([:n.toNatClampNeg] : Std.Legacy.Range).size = n.toNatClampNeg := by simp [Std.Legacy.Range.size]
  jvm_step X.here [hexec, hdg]
  simp only [Op.multianewarray.sem, wp_bind', W.resolveClassAt_links (State.method?_setTop (F0 m pc ls (.int k :: .int n :: rest)) X.here.top) hg₁]
  rw [W.popN, if_neg (by decide)]
  refine ⟨F0 m pc ls (.int k :: .int n :: rest), State.topJava?_setTop' (s := T.setVm vm₁) (F0 m pc ls (.int k :: .int n :: rest)) X.here.top, [.int n, .int k], rest, rfl, rfl, ?_⟩
  simp only [List.mapM_cons, List.mapM_nil, wp_bind', wp_pure']
  have eS : ((T.setTop (F0 m pc ls (.int k :: .int n :: rest))).setVm vm₁).setTop (F0 m pc ls rest) = (T.setVm vm₁).setTop (F0 m pc ls rest) := by
    show ((T.setVm vm₁).setTop _).setTop _ = _
    rw [State.setTop_setTop]
  rw [eS, Op.multianewarray.make]
  simp only [wp_bind', W.ite, hn, if_false, wp_pure', W.theClass, State.vm_setTop, State.vm_setVm, hkA₁, hkindA₁, Option.some.injEq, exists_eq_left']
  refine W.newArray_of (k := kA₁) (by exact hkA₁) hkindA₁ hl1 hh1 (by show T.heap.size < _; omega) (by show T.slotsUsed + _ ≤ _; omega) rfl (fun acts1 => ?_)
  simp only [hfind]
  rw [ite_self, wp_bind', Std.Legacy.Range.forIn_eq_forIn_range', hsz]
  have e0 : ((T.setVm vm₁).setTop (F0 m pc ls rest)).pushCell ({ cls := cA, slots := Array.replicate n.toNatClampNeg .null } : Cell) = u.setTop (F0 m pc ls rest) := by rw [← hY]; rfl
  rw [e0]
  show wp (forIn (List.range' 0 n.toNatClampNeg 1) PUnit.unit _) _ _ e _ _ _
  refine wp_forIn_inv (fun rs s' => ∃ i, i ≤ n.toNatClampNeg ∧ rs = List.range' i (n.toNatClampNeg - i) ∧ s' = (gd_st u T.heap.size k.toNatClampNeg comp' (defaultValue .int) i).setTop (F0 m pc ls rest)) _ _ ⟨0, Nat.zero_le _, rfl, rfl⟩ ?_ ?_
  · rintro x rs s' d' acts' Q' ⟨i, hi, hl, rfl⟩ hnext
    have hlt : i < n.toNatClampNeg := by
      rcases Nat.lt_or_ge i n.toNatClampNeg with h | h
      · exact h
      · rw [show n.toNatClampNeg - i = 0 from by omega] at hl; simp at hl
    rw [show n.toNatClampNeg - i = (n.toNatClampNeg - (i + 1)) + 1 from by omega, List.range'_succ] at hl
    obtain ⟨rfl, hrest⟩ := List.cons.inj hl
    obtain ⟨Li, Yi, -, ⟨z1, z2, ⟨sl, g1, g2, g3⟩, z4⟩, hvi, hui⟩ := grow x (by omega)
    have hmul : x * k.toNatClampNeg + k.toNatClampNeg ≤ n.toNatClampNeg * k.toNatClampNeg := by
      have h := Nat.mul_le_mul_right k.toNatClampNeg (show x + 1 ≤ n.toNatClampNeg from hlt)
      rw [Nat.succ_mul] at h; exact h
    simp only [wp_bind']
    refine gd_make1 (kc := kC₁) (cc := cD) (by show (gd_st u T.heap.size k.toNatClampNeg comp' (defaultValue .int) x).vm.classes[comp']? = _; rw [hvi, hvm0]; exact hkC₁) hkindC₁ hk hl2 hh2 rfl (by show (gd_st u T.heap.size k.toNatClampNeg comp' (defaultValue .int) x).heap.size < _; rw [z1]; omega) (by show (gd_st u T.heap.size k.toNatClampNeg comp' (defaultValue .int) x).slotsUsed + _ ≤ _; rw [hui]; omega) (fun acts2 => ?_)
    have hlt0 : T.heap.size < (gd_st u T.heap.size k.toNatClampNeg comp' (defaultValue .int) x).heap.size := by rw [z1]; omega
    simp only [wp_bind', W.writeLoc, wp_pure']
    refine ⟨({ cls := cA, slots := sl } : Cell), by show ((gd_st u T.heap.size k.toNatClampNeg comp' (defaultValue .int) x).pushCell _).heap[T.heap.size]? = _; rw [State.heap_pushCell_of_lt (h := hlt0)]; exact g1, by simp, by rw [g2]; exact hlt, ?_, hnext _ _ _ ⟨x + 1, hlt, hrest, ?_⟩⟩
    · simp [State.fitsSlot, State.slotType?, hvi, hvm0, hkA₁, hkindA₁, fits]
    · show (((gd_st u T.heap.size k.toNatClampNeg comp' (defaultValue .int) x).setTop (F0 m pc ls rest)).pushCell _).setCell _ _ = _
      rw [gd_st, g1, Option.getD_some, ← z1]
      rfl
  · rintro s' d' acts' ⟨i, hi, hl, rfl⟩
    have hiN : i = n.toNatClampNeg := by
      rcases Nat.lt_or_ge i n.toNatClampNeg with h | h
      · rw [show n.toNatClampNeg - i = (n.toNatClampNeg - (i + 1)) + 1 from by omega, List.range'_succ] at hl; cases hl
      · omega
    subst hiN
    simp only [wp_bind', wp_pure', W.mark, W.pushRef, State.topJava?_setTop' _ Y.here.top, Option.some.injEq, exists_eq_left', State.setTop_setTop, State.heap_setTop]
    intro acts3
    simp [jvm, Y.here.top]
    exact st
end GDC
