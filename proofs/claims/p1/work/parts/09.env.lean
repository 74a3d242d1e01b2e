/-! WHAT STANDS OUTSIDE OF EVERY WORLD: words that only a warmer table of a kind keeps, texts, static arrays, Throwable's two statics -/
def lw_isN : Cond → Bool
  | .fieldLinkNest .. => true
  | .methodLinkNest .. => true
  | .declares _ => true
  | .castable .. => true
  | _ => false
def lw_nws : List Cond := tables_1.filter lw_isN
theorem lw_nin {w : Cond} (h : w ∈ tables_1) (h2 : lw_isN w = true) : w ∈ lw_nws := List.mem_filter.mpr ⟨h, h2⟩
theorem lw_nwarm {w : Cond} (h : w ∈ lw_nws) {s U : State} (hW : s.WarmedH U.vm) (hZ : va_Nw w s) : va_Nw w U := by
  have h2 := (List.mem_filter.mp h).2
  cases w <;> simp [lw_isN] at h2
  · exact va_Nw.warmM hW hZ
  · exact va_Nw.warmF hW hZ
  · exact va_Nw.warmD hW hZ
  · exact va_Nw.warmC hW hZ
theorem lw_nuse {w : Cond} (h : w ∈ lw_nws) {args : Array Value} {U : State} (hZ : va_Nw w U) : w.before args U = true := by
  have h2 := (List.mem_filter.mp h).2
  cases w <;> simp [lw_isN] at h2 <;> exact va_Nw.use rfl hZ
abbrev xt_U : String × String × String := ("java/lang/Throwable", "UNASSIGNED_STACK", "[Ljava/lang/StackTraceElement;")
abbrev xt_S : String × String × String := ("java/lang/Throwable", "SUPPRESSED_SENTINEL", "Ljava/util/List;")
/-- a static field is laid, by its class's own row of statics -/
def xLS (q : String × String × String) (A : Nat → Prop) (U : State) : Prop := ∃ (c : ClassId) (k : Class) (i : Nat) (f : Field) (a : Nat) (cell : Cell), U.vm.findClass q.1 = some c ∧ U.fieldFound? q.1 q.2.1 q.2.2 = some (c, k, i, f) ∧ f.isStatic = true ∧ k.statics = some a ∧ U.heap[a]? = some cell ∧ cell.vm.isStatics = true ∧ cell.cls = c ∧ f.slot < cell.slots.size ∧ k.staticTypes[f.slot]? = some f.type ∧ ¬ A a
theorem xLS.st {q : String × String × String} {A A' : Nat → Prop} {s U : State} {H : Heap} {locs : List Loc} (h : xLS q A s) (hS : va_S A s.heap H locs) (hW : s.WarmedH U.vm) (hU : U.heap = H) (hA : ∀ q, A' q → A q) : xLS q A' U := by
  obtain ⟨c, k, i, f, a, cell, h1, h2, h3, h4, h5, h6, h7, h8, h9, h10⟩ := h
  obtain ⟨k', hi', he⟩ := State.fieldFound?_setVm hW.alike h2
  exact ⟨c, k', i, f, a, cell, by rw [hW.alike.findClass]; exact h1, hi', h3, by rw [he]; exact h4, by rw [hU, hS.2.1 a (Array.getElem?_eq_some_iff.mp h5).1 h10]; exact h5, h6, h7, h8, by rw [he]; exact h9, fun z => h10 (hA a z)⟩
theorem xLS.use {q : String × String × String} {A : Nat → Prop} {U : State} (h : xLS q A U) {args : Array Value} : (Cond.laysStatic q.1 q.2.1 q.2.2).before args U = true := by
  obtain ⟨c, k, i, f, a, cell, h1, h2, h3, h4, h5, h6, h7, h8, h9, -⟩ := h
  simp [Cond.before, Cond.holds, Cond.value, h1, h2, h3, h4, h5, h6, h7, h8, h9]
def xE_Z (q : String × String × String) (A : Nat → Prop) (U : State) : Prop := (∃ v : Value, v.isRef = true ∧ va_Z q.1 q.2.1 q.2.2 v A U U.heap) ∧ xLS q A U
def xE_T (C n : String) (N : Nat) (f : Nat → Int32) (A : Nat → Prop) (U : State) : Prop := ∃ t : Nat, va_Z C n "[I" (.ref t) A U U.heap ∧ va_T .int t N (fun j => .int (f j)) A U U.heap
def xHead (j : Nat) : Int32 := [0, 97, 115, 109, 1, 0, 0, 0].getD j 0
def xKnown (j : Nat) : Int32 := [0, 5, 11, 16, 26, 27, 32, 36, 40, 41, 44, 45, 54, 55, 58, 58, 63, 66, 69, 90, 103, 138, 167, 167, 172, 173].getD j 0
/-- classes that are not of another -/
def xnc : List (String × String) := [("java/lang/IllegalStateException", "java/lang/IllegalArgumentException"), ("java/lang/ArithmeticException", "java/lang/IllegalArgumentException"), ("java/lang/ArithmeticException", "java/lang/IllegalStateException")]
def xE (A : Nat → Prop) (U : State) : Prop := (∀ t ∈ xtexts, ∃ q, vk_R t.1 t.2.1 t.2.2 q U) ∧ (∀ w ∈ lw_nws, va_Nw w U) ∧ gd_Ov U ∧ xE_Z xt_U A U ∧ xE_Z xt_S A U ∧ xE_T "WaferRunner$Reader" "HEAD" 8 xHead A U ∧ xE_T "WaferRunner$Op" "KNOWN" 26 xKnown A U ∧ ∀ q ∈ xnc, va_Nc q.1 q.2 U
theorem xE_Z.st {q : String × String × String} {A A' : Nat → Prop} {s U : State} {H : Heap} {locs : List Loc} (h : xE_Z q A s) (hS : va_S A s.heap H locs) (hW : s.WarmedH U.vm) (hU : U.heap = H) (hA : ∀ q, A' q → A q) : xE_Z q A' U := by
  obtain ⟨⟨v, h1, h2⟩, h3⟩ := h
  exact ⟨⟨v, h1, by rw [hU]; exact ((h2.moved hW.alike).kept (fun a ha hn => hS.2.1 a ha hn)).narrow hA⟩, h3.st hS hW hU hA⟩
theorem xE_T.st {C n : String} {N : Nat} {f : Nat → Int32} {A A' : Nat → Prop} {s U : State} {H : Heap} {locs : List Loc} (h : xE_T C n N f A s) (hS : va_S A s.heap H locs) (hW : s.WarmedH U.vm) (hU : U.heap = H) (hA : ∀ q, A' q → A q) : xE_T C n N f A' U := by
  obtain ⟨t, h1, h2⟩ := h
  exact ⟨t, by rw [hU]; exact ((h1.moved hW.alike).kept (fun a ha hn => hS.2.1 a ha hn)).narrow hA, by rw [hU]; exact ((h2.moved hW.alike).kept (fun a ha hn => hS.2.1 a ha hn)).narrow hA⟩
theorem xE_st : xx_St xE := by
  intro A A' s U H locs h hS hW hU hA
  obtain ⟨h1, h2, h3, h4, h5, h6, h7, h8⟩ := h
  exact ⟨fun t ht => by obtain ⟨q, hq⟩ := h1 t ht; exact ⟨q, vk_R.warm hW hq⟩, fun w hw => lw_nwarm hw hW (h2 w hw), h3.moved hW.alike, h4.st hS hW hU hA, h5.st hS hW hU hA, h6.st hS hW hU hA, h7.st hS hW hU hA, fun q hq => (h8 q hq).moved hW.alike⟩
theorem xE_text {A : Nat → Prop} {U : State} (h : xE A U) {own tx : String} {idx : Nat} (hm : (own, idx, tx) ∈ xtexts) : ∃ q, vk_R own idx tx q U := h.1 _ hm
theorem xE_nw {A : Nat → Prop} {U : State} (h : xE A U) {w : Cond} (hm : w ∈ lw_nws) {args : Array Value} : w.before args U = true := lw_nuse hm (h.2.1 w hm)
theorem xE_nc {A : Nat → Prop} {U : State} (h : xE A U) {C T : String} (hm : (C, T) ∈ xnc) : va_Nc C T U := h.2.2.2.2.2.2.2 _ hm
theorem xE_static {q : String × String × String} {A : Nat → Prop} {U : State} (h : xE_Z q A U) {args : Array Value} : (Cond.isRef (.static q.1 q.2.1 q.2.2)).before args U = true := by
  obtain ⟨⟨v, hv, cf, kf, fi, f, a, cell, h1, h2, h3, h4, h5, h6, h7, -⟩, -⟩ := h
  have he : (Term.static q.1 q.2.1 q.2.2).eval args U none [] U = some v := by simp [Term.eval, State.fieldNamed?, h1, h2, h4, h5, h6, h7]
  simp only [Cond.before, Cond.holds, Cond.value, he]
  cases v <;> simp_all [Value.isRef]
def xE_in (w : Cond) : Prop := w ∈ lw_good ∨ w ∈ lw_nws ∨ w = .isRef (.static xt_U.1 xt_U.2.1 xt_U.2.2) ∨ w = .isRef (.static xt_S.1 xt_S.2.1 xt_S.2.2) ∨ w = .laysStatic xt_U.1 xt_U.2.1 xt_U.2.2 ∨ w = .laysStatic xt_S.1 xt_S.2.1 xt_S.2.2
theorem xE_atoms {A : Nat → Prop} {s : State} (hE : xE A s) {args : Array Value} (hts : ∀ w ∈ lw_good, w.before args s = true) {L : List Cond} (h : ∀ w ∈ L, xE_in w) : ∀ w ∈ L, w.before args s = true := by
  intro w hw
  rcases h w hw with h1 | h1 | h1 | h1 | h1 | h1
  · exact hts w h1
  · exact xE_nw hE h1
  · rw [h1]; exact xE_static hE.2.2.2.1
  · rw [h1]; exact xE_static hE.2.2.2.2.1
  · rw [h1]; exact hE.2.2.2.1.2.use
  · rw [h1]; exact hE.2.2.2.2.1.2.use
