/-! THE WORDS: one list for every method: its own code, then all of the tables' words that a warmer table keeps -/
def lw_isA : Cond → Bool
  | .arrayClass _ => true
  | _ => false
def lw_ok (w : Cond) : Bool := (w.onTables && w.keeps) || lw_isA w
def lw_good : List Cond := lw_tbl.filter lw_ok
theorem lw_ok_spec {w : Cond} (h : lw_ok w = true) : (w.onTables && w.keeps) = true ∨ ∃ ty, w = .arrayClass ty := by
  unfold lw_ok at h
  rw [Bool.or_eq_true] at h
  rcases h with h | h
  · exact Or.inl h
  · right
    cases w <;> simp [lw_isA] at h
    exact ⟨_, rfl⟩
theorem lw_gd : ∀ w ∈ lw_good, (w.onTables && w.keeps) = true ∨ ∃ ty, w = .arrayClass ty := fun w h => lw_ok_spec (List.mem_filter.mp h).2
theorem lw_in {w : Cond} (h : w ∈ lw_tbl) (h2 : lw_ok w = true) : w ∈ lw_good := List.mem_filter.mpr ⟨h, h2⟩
theorem lw_sub {w : Cond} (h : w ∈ lw_good) : w ∈ lw_tbl := (List.mem_filter.mp h).1
abbrev wx (y : MethodName) (b : ByteArray) (n : Nat) (r : Option FieldType) : List Cond := Cond.code y b n r :: lw_good
abbrev wxW (y : MethodName) (b : ByteArray) (n : Nat) (r : Option FieldType) (hh : List (Nat × Nat × Nat × Nat)) : List Cond := Cond.codeWith y b n r hh :: lw_good
theorem lw_cons {w0 : Cond} (h : w0 ∈ lw_good) : GoodIn lw_good (w0 :: lw_good) := by
  intro w hw
  rcases List.mem_cons.mp hw with h1 | h1
  · subst h1; exact ⟨h, lw_gd _ h⟩
  · exact ⟨h1, lw_gd _ h1⟩
section XWA
variable {R : Room} {s : State} {args : Array Value} {own C : String} {index maxL mc ms : Nat} {y : MethodName} {bytes : ByteArray} {ret : Option FieldType} {rm : Room} {hh : List (Nat × Nat × Nat × Nat)}
theorem xw_V (n : Nat) (hts : ∀ w ∈ lw_good, w.before args s = true) (h1 : Cond.methodLink own index y ∈ lw_good) (h2 : Cond.instanceMethod y ∈ lw_good) (h3 : Cond.selects C y y ∈ lw_good) (h4 : Cond.initialized C ∈ lw_good) (h5 : Cond.code y bytes maxL ret ∈ lw_good)
    (hd : y.cls = C ∧ y.cls ≠ "java/lang/invoke/MethodHandle" ∧ y.cls ≠ "java/lang/invoke/VarHandle" ∧ (parseMethodDescriptor y.desc).map (fun d => d.parameters.length) = some n) (hR : rm.frames + 1 ≤ R.frames ∧ 8 + (maxL + 11) + rm.locals ≤ R.locals) (hrc : rm.cells = mc := by rfl) (hrs : rm.slots = ms := by rfl) :
    CallW R s args own C index y bytes maxL ret (wx y bytes maxL ret) rm mc ms n := by
  obtain ⟨hC, hd⟩ := hd
  subst hC
  exact ⟨callB_of n hts (lw_cons h5) rfl hrc hrs (hts _ h4) (hts _ h1) hd hR, hts _ h2, hts _ h3⟩
theorem xw_S (n : Nat) (hts : ∀ w ∈ lw_good, w.before args s = true) (h1 : Cond.methodLink own index y ∈ lw_good) (h2 : Cond.static y ∈ lw_good) (h4 : Cond.initialized C ∈ lw_good) (h5 : Cond.code y bytes maxL ret ∈ lw_good)
    (hd : y.cls = C ∧ y.cls ≠ "java/lang/invoke/MethodHandle" ∧ y.cls ≠ "java/lang/invoke/VarHandle" ∧ (parseMethodDescriptor y.desc).map (fun d => d.parameters.length) = some n) (hR : rm.frames + 1 ≤ R.frames ∧ 8 + (maxL + 11) + rm.locals ≤ R.locals) (hrc : rm.cells = mc := by rfl) (hrs : rm.slots = ms := by rfl) :
    CallB R s args own index y bytes maxL ret (wx y bytes maxL ret) rm mc ms n ∧ (Cond.static y).before args s = true := by
  obtain ⟨hC, hd⟩ := hd
  subst hC
  exact ⟨callB_of n hts (lw_cons h5) rfl hrc hrs (hts _ h4) (hts _ h1) hd hR, hts _ h2⟩
theorem xw_I (n : Nat) (hts : ∀ w ∈ lw_good, w.before args s = true) (h1 : Cond.methodLink own index y ∈ lw_good) (h2 : Cond.instanceMethod y ∈ lw_good) (h4 : Cond.initialized C ∈ lw_good) (h5 : Cond.code y bytes maxL none ∈ lw_good) (hn : y.name = "<init>")
    (hd : y.cls = C ∧ y.cls ≠ "java/lang/invoke/MethodHandle" ∧ y.cls ≠ "java/lang/invoke/VarHandle" ∧ (parseMethodDescriptor y.desc).map (fun d => d.parameters.length) = some n) (hR : rm.frames + 1 ≤ R.frames ∧ 8 + (maxL + 11) + rm.locals ≤ R.locals) (hrc : rm.cells = mc := by rfl) (hrs : rm.slots = ms := by rfl) :
    CallB R s args own index y bytes maxL none (wx y bytes maxL none) rm mc ms n ∧ y.name = "<init>" ∧ (Cond.instanceMethod y).before args s = true := by
  obtain ⟨hC, hd⟩ := hd
  subst hC
  exact ⟨callB_of n hts (lw_cons h5) rfl hrc hrs (hts _ h4) (hts _ h1) hd hR, hn, hts _ h2⟩
theorem xw_BW (n : Nat) (hts : ∀ w ∈ lw_good, w.before args s = true) (h1 : Cond.methodLink own index y ∈ lw_good) (h4 : Cond.initialized C ∈ lw_good) (h5 : Cond.codeWith y bytes maxL ret hh ∈ lw_good)
    (hd : y.cls = C ∧ y.cls ≠ "java/lang/invoke/MethodHandle" ∧ y.cls ≠ "java/lang/invoke/VarHandle" ∧ (parseMethodDescriptor y.desc).map (fun d => d.parameters.length) = some n) (hR : rm.frames + 1 ≤ R.frames ∧ 8 + (maxL + 11) + rm.locals ≤ R.locals) (hrc : rm.cells = mc) (hrs : rm.slots = ms) :
    ex_CallB R s args own index y bytes maxL ret hh (wxW y bytes maxL ret hh) rm mc ms n := by
  obtain ⟨hC, hd⟩ := hd
  subst hC
  refine ⟨hrc, hrs, hR.1, hR.2, pay_in hts (lw_cons h5), List.mem_cons_self, hts _ h5, hts _ h4, ⟨hd.1, hd.2.1⟩, fun sig h => ?_, hts _ h1⟩
  have h2 := hd.2.2
  rw [h] at h2
  exact (Option.some.inj h2).symm
theorem xw_SW (n : Nat) (hts : ∀ w ∈ lw_good, w.before args s = true) (h1 : Cond.methodLink own index y ∈ lw_good) (h2 : Cond.static y ∈ lw_good) (h4 : Cond.initialized C ∈ lw_good) (h5 : Cond.codeWith y bytes maxL ret hh ∈ lw_good)
    (hd : y.cls = C ∧ y.cls ≠ "java/lang/invoke/MethodHandle" ∧ y.cls ≠ "java/lang/invoke/VarHandle" ∧ (parseMethodDescriptor y.desc).map (fun d => d.parameters.length) = some n) (hR : rm.frames + 1 ≤ R.frames ∧ 8 + (maxL + 11) + rm.locals ≤ R.locals) (hrc : rm.cells = mc := by rfl) (hrs : rm.slots = ms := by rfl) :
    ex_CallB R s args own index y bytes maxL ret hh (wxW y bytes maxL ret hh) rm mc ms n ∧ (Cond.static y).before args s = true := ⟨xw_BW n hts h1 h4 h5 hd hR hrc hrs, hts _ h2⟩
theorem xw_VW (n : Nat) (hts : ∀ w ∈ lw_good, w.before args s = true) (h1 : Cond.methodLink own index y ∈ lw_good) (h2 : Cond.instanceMethod y ∈ lw_good) (h3 : Cond.selects C y y ∈ lw_good) (h4 : Cond.initialized C ∈ lw_good) (h5 : Cond.codeWith y bytes maxL ret hh ∈ lw_good)
    (hd : y.cls = C ∧ y.cls ≠ "java/lang/invoke/MethodHandle" ∧ y.cls ≠ "java/lang/invoke/VarHandle" ∧ (parseMethodDescriptor y.desc).map (fun d => d.parameters.length) = some n) (hR : rm.frames + 1 ≤ R.frames ∧ 8 + (maxL + 11) + rm.locals ≤ R.locals) (hrc : rm.cells = mc := by rfl) (hrs : rm.slots = ms := by rfl) :
    ex_CallB R s args own index y bytes maxL ret hh (wxW y bytes maxL ret hh) rm mc ms n ∧ (Cond.instanceMethod y).before args s = true ∧ (Cond.selects C y y).before args s = true := ⟨xw_BW n hts h1 h4 h5 hd hR hrc hrs, hts _ h2, hts _ h3⟩
theorem xw_IN {host : String} (n : Nat) (hts : ∀ w ∈ lw_good, w.before args s = true) (h1 : (Cond.methodLinkNest own index y host).before args s = true) (h2 : Cond.instanceMethod y ∈ lw_good) (h4 : Cond.initialized C ∈ lw_good) (h5 : Cond.code y bytes maxL none ∈ lw_good) (hn : y.name = "<init>")
    (hd : y.cls = C ∧ y.cls ≠ "java/lang/invoke/MethodHandle" ∧ y.cls ≠ "java/lang/invoke/VarHandle" ∧ (parseMethodDescriptor y.desc).map (fun d => d.parameters.length) = some n) (hR : rm.frames + 1 ≤ R.frames ∧ 8 + (maxL + 11) + rm.locals ≤ R.locals) (hrc : rm.cells = mc := by rfl) (hrs : rm.slots = ms := by rfl) :
    ex_CallN R s args own index y host bytes maxL (wx y bytes maxL none) rm mc ms n ∧ y.name = "<init>" ∧ (Cond.instanceMethod y).before args s = true := by
  obtain ⟨hC, hd⟩ := hd
  subst hC
  refine ⟨⟨hrc, hrs, hR.1, hR.2, pay_in hts (lw_cons h5), List.mem_cons_self, hts _ h5, hts _ h4, ⟨hd.1, hd.2.1⟩, fun sig h => ?_, h1⟩, hn, hts _ h2⟩
  have h2 := hd.2.2
  rw [h] at h2
  exact (Option.some.inj h2).symm
end XWA
