/-! VALID: the class's check of an instruction that looks at the innermost block alone -/
section COP
variable {fu g i : Nat} {f : Nat → Int32} {p1 q lc : Int} {lab : Nat → Int} {R : SS} {N : Nat} {bo : KBo} {bt : KBt} {x : Fr} {C : KCo} {Ct : KCt} {W1 : KW1} {W3 : KW3} {Wj : KWj} {W5 : KW5} {W6 : KW6} {M1 : KM1} {Mp : KMp} {M3 : KM3} {Mj : KMj} {Ml : KMl} {M5 : KM5} {M6 : KM6} {o : Int}
set_option maxRecDepth 20000 in
theorem obind_id2 {G : Out Empty (KBV × KBt)} {H : KBV × KBt → Out Empty (KCt × KBV × KBt × KBo)} : obind (obind G (fun x => .ret (x.1, x.2))) H = obind G H := by
  rw [obind_as]; rfl
set_option maxRecDepth 20000 in
theorem c_op (hfu : 10 < fu) (hi : i < 2000) (hM : MOk W1 W3 M1 Mp M3) (hg : (g : Int) < M3.functions) (hLo : LOk Wj Mj Ml g) (h5 : R5 W5 M5) (h6 : R6 W6 M6) (ho : opk o) (hd : DecI f o (C.values i) (C.extras i) lab lc p1 q) (hB : BOk bo (x :: R)) (hT : RT bt (x :: R)) (hn : tot (x :: R) ≤ N) (hN : N < 2000) : ∃ G, f_BV_check fu C Ct W1 W3 Wj W5 W6 (KBV.mk (g : Int) false) bt bo o i = obind G (fun y => .ret (Ct, y.1, y.2, bo)) ∧ Cv g R (N + 1) G (opF M1 Mp M3 Mj Ml M5 M6 g o (C.values i) (C.extras i) x) := by
  have hii : (0 : Int) ≤ i ∧ (i : Int) < 2000 := by omega
  have hb : Hb bt := hT.Hb (by omega)
  unfold opF
  by_cases c : o = 16
  · subst c
    obtain ⟨i1, i2, i3⟩ := hd.2.1 (by omega)
    refine ⟨f_BV_checkCall fu W1 W3 (KBV.mk (g : Int) false) bt bo (C.values i), ?_, ?_⟩
    · unfold f_BV_check f_BV_checkControl
      simp only [jp, Int.reduceLT, Int.reduceLE, Int.reduceEq, reduceIte, obind_as, obind_ret, if_pos hii, Int.toNat_natCast]
    · rw [if_pos rfl]; exact c_call hfu hM i2 i3 hB hT hn hN
  rw [if_neg c]
  by_cases c : o = 26
  · subst c
    refine ⟨obind (f_BV_pop (KBV.mk (g : Int) false) bt bo 0) (fun x => .ret (x.1, x.2.1)), ?_, ?_⟩
    · unfold f_BV_check
      simp only [jp, Int.reduceLT, Int.reduceLE, Int.reduceEq, reduceIte, obind_as, obind_ret]
    · rw [if_pos rfl]
      exact Cvp.map (c_pop2 (by decide) hB hT hn (by omega)) (fun y bt e1 e2 e3 e4 => Cv.ret e3 (by omega)) (fun bt v hb => Dv.ret hb)
  rw [if_neg c]
  by_cases c : o = 27
  · subst c
    refine ⟨_, ?_, (by rw [if_pos rfl]; exact c_sel hB hT hn hN)⟩
    unfold f_BV_check
    simp only [jp, Int.reduceLT, Int.reduceLE, Int.reduceEq, reduceIte, obind_as, obind_ret]
  rw [if_neg c]
  have lcl : ∀ o, (o = 32 ∨ o = 33 ∨ o = 34) → (DecI f o (C.values i) (C.extras i) lab lc p1 q) → ∃ G, f_BV_check fu C Ct W1 W3 Wj W5 W6 (KBV.mk (g : Int) false) bt bo o i = obind G (fun y => .ret (Ct, y.1, y.2, bo)) ∧ Cv g R (N + 1) G ((locA M1 Mp M3 Mj Ml g (C.values i).toInt).bind (fun t => if o = 32 then some (pushA t x) else if o = 33 then (popA t x).map Prod.snd else (popA t x).map (fun y => pushA t y.2))) := by
    intro o ho hd
    obtain ⟨i1, i2, i3⟩ := hd.2.1 (by omega)
    have e : f_BV_check fu C Ct W1 W3 Wj W5 W6 (KBV.mk (g : Int) false) bt bo o i = obind (f_Wa_variableTypeOf W1 W3 Wj g (C.values i)) (fun x_28 => obind (f_BV_checkLocal (KBV.mk (g : Int) false) bt bo o x_28) (fun y => .ret (Ct, y.1, y.2, bo))) := by
      unfold f_BV_check
      simp only [jp]
      rw [if_neg (show ¬ o = 256 by omega), if_pos (show 16 < o by omega), if_neg (show ¬ o = 26 by omega), if_neg (show ¬ o = 27 by omega), if_neg (show ¬ 34 < o by omega), if_pos hii, Int.toNat_natCast]
    rw [e, c_var hM hg hLo i2 i3, obind_ret]
    cases hl : locA M1 Mp M3 Mj Ml g (C.values i).toInt with
    | none => exact ⟨_, rfl, (c_loc64 hb).Cv⟩
    | some t => exact ⟨_, rfl, c_loc ho (locA_ty hM hg hLo i2 hl) hB hT hn hN⟩
  by_cases c : o = 32
  · subst c
    rw [if_pos rfl]
    obtain ⟨G, e1, e2⟩ := lcl 32 (by decide) hd
    refine ⟨G, e1, ?_⟩
    simp only [Int.reduceEq, reduceIte] at e2
    cases hl : locA M1 Mp M3 Mj Ml g (C.values i).toInt with
    | none => rw [hl] at e2; exact e2
    | some t => rw [hl] at e2; exact e2
  rw [if_neg c]
  by_cases c : o = 33
  · subst c
    rw [if_pos rfl]
    obtain ⟨G, e1, e2⟩ := lcl 33 (by decide) hd
    simp only [Int.reduceEq, reduceIte] at e2
    exact ⟨G, e1, e2⟩
  rw [if_neg c]
  by_cases c : o = 34
  · subst c
    rw [if_pos rfl]
    obtain ⟨G, e1, e2⟩ := lcl 34 (by decide) hd
    simp only [Int.reduceEq, reduceIte] at e2
    exact ⟨G, e1, e2⟩
  rw [if_neg c]
  have glb : ∀ o, (o = 35 ∨ o = 36) → DecI f o (C.values i) (C.extras i) lab lc p1 q → ∃ G, f_BV_check fu C Ct W1 W3 Wj W5 W6 (KBV.mk (g : Int) false) bt bo o i = obind G (fun y => .ret (Ct, y.1, y.2, bo)) ∧ Cv g R (N + 1) G (if o = 35 then (if (C.values i).toInt < M6.globals then some (pushA (M6.globalTypes (C.values i).toInt.toNat) x) else none) else (if (C.values i).toInt < M6.globals ∧ M6.changes (C.values i).toInt.toNat = true then (popA (M6.globalTypes (C.values i).toInt.toNat) x).map Prod.snd else none)) := by
    intro o ho hd
    obtain ⟨i1, i2, i3⟩ := hd.2.1 (by omega)
    refine ⟨f_BV_checkGlobal W6 (KBV.mk (g : Int) false) bt bo o (C.values i), ?_, c_glb h6 ho i2 i3 hB hT hn hN⟩
    unfold f_BV_check
    simp only [jp]
    rw [if_neg (show ¬ o = 256 by omega), if_pos (show 16 < o by omega), if_neg (show ¬ o = 26 by omega), if_neg (show ¬ o = 27 by omega), if_pos (show 34 < o by omega), if_neg (show ¬ 36 < o by omega), if_pos hii, Int.toNat_natCast]
  by_cases c : o = 35
  · subst c
    rw [if_pos rfl]
    obtain ⟨G, e1, e2⟩ := glb 35 (by decide) hd
    rw [if_pos rfl] at e2
    exact ⟨G, e1, e2⟩
  rw [if_neg c]
  by_cases c : o = 36
  · subst c
    rw [if_pos rfl]
    obtain ⟨G, e1, e2⟩ := glb 36 (by decide) hd
    rw [if_neg (by decide)] at e2
    exact ⟨G, e1, e2⟩
  rw [if_neg c]
  have mem : (ldst o ∨ o = 63 ∨ o = 64) → ∃ G, f_BV_check fu C Ct W1 W3 Wj W5 W6 (KBV.mk (g : Int) false) bt bo o i = obind G (fun y => .ret (Ct, y.1, y.2, bo)) ∧ Cv g R (N + 1) G (if ldst o then memA (hasM M5) o (C.extras i) x else if o = 63 then (if hasM M5 = true then some (pushA 127 x) else none) else (if hasM M5 = true then (popA 127 x).map (fun y => pushA 127 y.2) else none)) := by
    intro ho
    refine ⟨f_BV_checkMemory C W5 (KBV.mk (g : Int) false) bt bo o i, ?_, c_mem hi h5 ho (fun hl => (hd.2.2.2.1 hl).choose_spec.2.1) hB hT hn hN⟩
    unfold f_BV_check
    simp only [jp]
    rw [if_neg (show ¬ o = 256 by omega), if_pos (show 16 < o by omega), if_neg (show ¬ o = 26 by omega), if_neg (show ¬ o = 27 by omega), if_pos (show 34 < o by omega), if_pos (show 36 < o by omega), if_neg (show ¬ 64 < o by omega)]
  by_cases c : o ≤ 58
  · rw [if_pos c]
    have hl : ldst o := by omega
    obtain ⟨G, e1, e2⟩ := mem (Or.inl hl)
    rw [if_pos hl] at e2
    exact ⟨G, e1, e2⟩
  rw [if_neg c]
  by_cases c : o = 63
  · rw [if_pos c]
    obtain ⟨G, e1, e2⟩ := mem (Or.inr (Or.inl c))
    rw [if_neg (by omega), if_pos c] at e2
    exact ⟨G, e1, e2⟩
  rw [if_neg c]
  by_cases c : o = 64
  · rw [if_pos c]
    obtain ⟨G, e1, e2⟩ := mem (Or.inr (Or.inr c))
    rw [if_neg (by omega), if_neg (by omega)] at e2
    exact ⟨G, e1, e2⟩
  rw [if_neg c]
  by_cases c : o = 65
  · subst c
    rw [if_pos rfl]
    refine ⟨_, ?_, Cv.pushR (Or.inl rfl) hT hn hN⟩
    unfold f_BV_check
    simp only [jp, Int.reduceLT, Int.reduceLE, Int.reduceEq, reduceIte, obind_as, obind_ret]
  rw [if_neg c]
  by_cases c : o = 66
  · subst c
    rw [if_pos rfl]
    refine ⟨_, ?_, Cv.pushR (Or.inr rfl) hT hn hN⟩
    unfold f_BV_check
    simp only [jp, Int.reduceLT, Int.reduceLE, Int.reduceEq, reduceIte, obind_as, obind_ret]
  rw [if_neg c]
  refine ⟨_, ?_, c_num (show numo o by omega) hB hT hn hN⟩
  unfold f_BV_check
  simp only [jp]
  rw [if_neg (show ¬ o = 256 by omega), if_pos (show 16 < o by omega), if_neg (show ¬ o = 26 by omega), if_neg (show ¬ o = 27 by omega), if_pos (show 34 < o by omega), if_pos (show 36 < o by omega), if_pos (show 64 < o by omega), if_pos (show 66 < o by omega)]
end COP
