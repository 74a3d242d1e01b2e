/-! THE START: the classes' numbers (va_K) and what stands outside of every world (xE), out of the tables' words and of the Statement's premises -/
theorem st_arr {s : State} {args : Array Value} {ty : FieldType} (h : (Cond.arrayClass ty).before args s = true) : ∃ c : ClassId, ArrOfT s c ty ∧ s.vm.findClass ("[" ++ ty.toString) = some c := by
  obtain ⟨c, k, comp, h1, h2, h3⟩ := Cond.arrayClass_spec h
  exact ⟨c, fun n z => ⟨fun k h => (by cases h), k, h2, comp, h3⟩, h1⟩
set_option maxHeartbeats 2000000 in
theorem st_K {s : State} {args : Array Value} (hts : ∀ w ∈ lw_good, w.before args s = true) (hov : gd_Ov s) : ∃ (G : va_G) (cB cI cJ cZ cG : ClassId), va_K G classes (xtys cB cI cJ cZ cG) s := by
  obtain ⟨cp, aG, kG, hg1, hg2, hg3, hg4⟩ := hov
  obtain ⟨c0, d0, hk0⟩ := u_known (C := R_WR) (T := F_WR) (N := 11) (n := 11) hts i_WR (hts _ (lw_in (List.mem_append_right _ (List.mem_of_getElem? (i := 29) (by decide +kernel))) (by decide +kernel)))
  obtain ⟨c1, d1, hk1⟩ := u_known (C := R_Rd) (T := F_Rd) (N := 4) (n := 4) hts i_Rd (hts _ (lw_in (List.mem_append_right _ (List.mem_of_getElem? (i := 37) (by decide +kernel))) (by decide +kernel)))
  obtain ⟨c2, d2, hk2⟩ := u_known (C := R_BR) (T := F_BR) (N := 4) (n := 4) hts i_BR (hts _ (lw_in (List.mem_append_right _ (List.mem_of_getElem? (i := 64) (by decide +kernel))) (by decide +kernel)))
  obtain ⟨c3, d3, hk3⟩ := u_known (C := R_So) (T := F_So) (N := 4) (n := 4) hts i_So (hts _ (lw_in (List.mem_append_right _ (List.mem_of_getElem? (i := 43) (by decide +kernel))) (by decide +kernel)))
  obtain ⟨c4, d4, hk4⟩ := u_known (C := R_Va) (T := F_Va) (N := 1) (n := 1) hts i_Va (hts _ (lw_in (List.mem_append_right _ (List.mem_of_getElem? (i := 97) (by decide +kernel))) (by decide +kernel)))
  obtain ⟨c5, d5, hk5⟩ := u_known (C := R_BV) (T := F_BV) (N := 12) (n := 12) hts i_BV (hts _ (lw_in (List.mem_append_right _ (List.mem_of_getElem? (i := 103) (by decide +kernel))) (by decide +kernel)))
  obtain ⟨c6, d6, hk6⟩ := u_known (C := R_Ma) (T := F_Ma) (N := 17) (n := 17) hts i_Ma (hts _ (lw_in (List.mem_append_right _ (List.mem_of_getElem? (i := 151) (by decide +kernel))) (by decide +kernel)))
  obtain ⟨c7, d7, hk7⟩ := u_known (C := R_Wa) (T := F_Wa) (N := 19) (n := 19) hts i_Wa (hts _ (lw_in (List.mem_append_right _ (List.mem_of_getElem? (i := 214) (by decide +kernel))) (by decide +kernel)))
  obtain ⟨c8, d8, hk8⟩ := u_known (C := R_Ex) (T := F_Ex) (N := 5) (n := 5) hts i_Ex (hts _ (lw_in (List.mem_append_right _ (List.mem_of_getElem? (i := 220) (by decide +kernel))) (by decide +kernel)))
  obtain ⟨c9, d9, hk9⟩ := u_known (C := R_Co) (T := F_Co) (N := 11) (n := 11) hts i_Co (hts _ (lw_in (List.mem_append_right _ (List.mem_of_getElem? (i := 251) (by decide +kernel))) (by decide +kernel)))
  obtain ⟨c10, d10, hk10⟩ := u_known (C := R_Mo) (T := F_Mo) (N := 38) (n := 38) hts i_Mo (hts _ (lw_in (List.mem_append_right _ (List.mem_of_getElem? (i := 1125) (by decide +kernel))) (by decide +kernel)))
  obtain ⟨c11, d11, hk11⟩ := u_known (C := R_Mm) (T := F_Mm) (N := 29) (n := 29) hts i_Mm (hts _ (lw_in (List.mem_append_right _ (List.mem_of_getElem? (i := 1157) (by decide +kernel))) (by decide +kernel)))
  obtain ⟨c12, d12, hk12⟩ := u_known (C := R_Rf) (T := F_Rf) (N := 7) (n := 7) hts i_Rf (hts _ (lw_in (List.mem_append_right _ (List.mem_of_getElem? (i := 1131) (by decide +kernel))) (by decide +kernel)))
  obtain ⟨c13, d13, hk13⟩ := u_known (C := R_xI) (T := F_xI) (N := 0) (n := 6) hts (fun w h => absurd h List.not_mem_nil) (hts _ (lw_in (List.mem_append_right _ (List.mem_of_getElem? (i := 473) (by decide +kernel))) (by decide +kernel)))
  obtain ⟨c14, d14, hk14⟩ := u_known (C := R_xA) (T := F_xA) (N := 0) (n := 6) hts (fun w h => absurd h List.not_mem_nil) (hts _ (lw_in (List.mem_append_right _ (List.mem_of_getElem? (i := 555) (by decide +kernel))) (by decide +kernel)))
  obtain ⟨c15, d15, hk15⟩ := u_known (C := R_xU) (T := F_xU) (N := 0) (n := 6) hts (fun w h => absurd h List.not_mem_nil) (hts _ (lw_in (List.mem_append_right _ (List.mem_of_getElem? (i := 881) (by decide +kernel))) (by decide +kernel)))
  obtain ⟨c16, d16, hk16⟩ := u_known (C := R_xS) (T := F_xS) (N := 0) (n := 6) hts (fun w h => absurd h List.not_mem_nil) (hts _ (lw_in (List.mem_append_right _ (List.mem_of_getElem? (i := 925) (by decide +kernel))) (by decide +kernel)))
  obtain ⟨c17, d17, hk17⟩ := u_known (C := R_xR) (T := F_xR) (N := 0) (n := 6) hts (fun w h => absurd h List.not_mem_nil) (hts _ (lw_in (List.mem_append_right _ (List.mem_of_getElem? (i := 1082) (by decide +kernel))) (by decide +kernel)))
  obtain ⟨aB, haB, hbB⟩ := st_arr (ty := .byte) (hts _ (lw_in (List.mem_append_right _ (List.mem_of_getElem? (i := 61) (by decide +kernel))) (by decide +kernel)))
  obtain ⟨aI, haI, hbI⟩ := st_arr (ty := .int) (hts _ (lw_in (List.mem_append_right _ (List.mem_of_getElem? (i := 82) (by decide +kernel))) (by decide +kernel)))
  obtain ⟨aJ, haJ, hbJ⟩ := st_arr (ty := .long) (hts _ (lw_in (List.mem_append_right _ (List.mem_of_getElem? (i := 62) (by decide +kernel))) (by decide +kernel)))
  obtain ⟨aZ, haZ, hbZ⟩ := st_arr (ty := .boolean) (hts _ (lw_in (List.mem_append_right _ (List.mem_of_getElem? (i := 145) (by decide +kernel))) (by decide +kernel)))
  refine ⟨(fun k => [c0, c1, c2, c3, c4, c5, c6, c7, c8, c9, c10, c11, c12, c13, c14, c15, c16, c17].getD k c0, fun k => [d0, d1, d2, d3, d4, d5, d6, d7, d8, d9, d10, d11, d12, d13, d14, d15, d16, d17].getD k d0), aB, aI, aJ, aZ, aG, ?_, ?_⟩
  · intro k q hq
    match k, hq with
    | 0, hq => cases hq; exact hk0
    | 1, hq => cases hq; exact hk1
    | 2, hq => cases hq; exact hk2
    | 3, hq => cases hq; exact hk3
    | 4, hq => cases hq; exact hk4
    | 5, hq => cases hq; exact hk5
    | 6, hq => cases hq; exact hk6
    | 7, hq => cases hq; exact hk7
    | 8, hq => cases hq; exact hk8
    | 9, hq => cases hq; exact hk9
    | 10, hq => cases hq; exact hk10
    | 11, hq => cases hq; exact hk11
    | 12, hq => cases hq; exact hk12
    | 13, hq => cases hq; exact hk13
    | 14, hq => cases hq; exact hk14
    | 15, hq => cases hq; exact hk15
    | 16, hq => cases hq; exact hk16
    | 17, hq => cases hq; exact hk17
    | k + 18, hq => simp [classes] at hq
  · intro k q hq
    match k, hq with
    | 0, hq => cases hq; exact ⟨haB, hbB⟩
    | 1, hq => cases hq; exact ⟨haI, hbI⟩
    | 2, hq => cases hq; exact ⟨haJ, hbJ⟩
    | 3, hq => cases hq; exact ⟨haZ, hbZ⟩
    | 4, hq => cases hq; exact ⟨fun n z => ⟨fun k h => (by cases h), kG, hg2, cp, hg3⟩, hg4⟩
    | k + 5, hq => simp [xtys] at hq
theorem st_text {s : State} {args : Array Value} {own tx : String} {k : Nat} (h1 : (Cond.stringRef own k tx).before args s = true) (h2 : (Cond.exactly (.string own k) "java/lang/String").before args s = true) : ∃ q, vk_R own k tx q s := by
  obtain ⟨a2, c, cA, kA, q1, -⟩ := Cond.exactly_spec (args := args) (first := s) (o := none) (s := s) (idx := []) (t := .string own k) (cls := "java/lang/String") h2
  exact ⟨a2, vk_R.of h1 q1⟩
theorem st_Z {s : State} {args : Array Value} {q : String × String × String} (h1 : (Cond.laysStatic q.1 q.2.1 q.2.2).before args s = true) (h2 : (Cond.initialized q.1).before args s = true) (h3 : (Cond.isRef (.static q.1 q.2.1 q.2.2)).before args s = true) : xE_Z q (fun a => s.heap.size ≤ a) s := by
  have hA : ∀ a : Nat, a < s.heap.size → ¬ (fun a => s.heap.size ≤ a) a := fun a h => Nat.not_le.mpr h
  refine ⟨?_, ?_⟩
  · cases hv : (Term.static q.1 q.2.1 q.2.2).eval args s none [] s with
    | none => simp [Cond.before, Cond.holds, Cond.value, hv] at h3
    | some v =>
      refine ⟨v, ?_, va_Zof h1 h2 hv hA⟩
      simp only [Cond.before, Cond.holds, Cond.value, hv] at h3
      cases v <;> simp_all [Value.isRef]
  · obtain ⟨c, k, i, f, a, cell, hc, hi, hst, ha, hcell, hs, hcls, hlt, hty⟩ := Cond.laysStatic_spec h1
    exact ⟨c, k, i, f, a, cell, hc, hi, hst, ha, hcell, hs, hcls, hlt, hty, hA a (Array.getElem?_eq_some_iff.mp hcell).1⟩
theorem st_over {s : State} {args : Array Value} (h : (Cond.arrayOver (.array .int)).before args s = true) : gd_Ov s := by
  simp only [Cond.before, Cond.holds, Cond.value, beq_iff_eq] at h
  cases hc : s.vm.findClass (FieldType.array .int).toString with
  | none => simp [hc] at h
  | some comp =>
    simp only [hc, Option.bind_some, Option.bind_eq_some_iff, Option.map_eq_some_iff] at h
    obtain ⟨cA, hi, k, hk, hb⟩ := h
    obtain ⟨hlt, hp, -⟩ := Array.findIdx?_eq_some_iff_getElem.mp hi
    have hkk : s.vm.classes[cA] = k := (Array.getElem?_eq_some_iff.mp hk).2
    rw [hkk] at hp
    cases hkind : k.kind with
    | array component t =>
      rw [hkind] at hb hp
      simp at hb hp
      exact ⟨comp, cA, k, hc, hk, by rw [hkind, hp, hb.1], hb.2⟩
    | _ => rw [hkind] at hb; simp at hb
theorem st_T {s : State} {args : Array Value} {C n : String} {N : Nat} {f : Nat → Int32} (hN : N < 2 ^ 31) (h1 : (Cond.laysStatic C n "[I").before args s = true) (h2 : (Cond.initialized C).before args s = true) (h3 : (Cond.arrayOf (.static C n "[I") .int).before args s = true) (h4 : (Cond.eq (.length (.static C n "[I")) (.int (Int32.ofNat N))).before args s = true)
    (h5 : ∀ j : Nat, j < N → (Cond.eq (.elem (.static C n "[I") (.int (Int32.ofNat j))) (.int (f j))).before args s = true) : xE_T C n N f (fun a => s.heap.size ≤ a) s := by
  have hA : ∀ a : Nat, a < s.heap.size → ¬ (fun a => s.heap.size ≤ a) a := fun a h => Nat.not_le.mpr h
  obtain ⟨t, ht, hT⟩ := va_Tof (f := fun j => .int (f j)) hN h3 (va_eqt h4) (fun j hj => va_eqt (h5 j hj)) hA
  exact ⟨t, va_Zof h1 h2 ht hA, hT⟩
set_option maxHeartbeats 4000000 in
set_option maxRecDepth 20000 in
theorem st_E {s : State} {args : Array Value} (hts : ∀ w ∈ lw_tbl, w.before args s = true) (hgv : (Jvm.Cond.and given_1 narrow_1).before args s = true) : xE (fun a => s.heap.size ≤ a) s := by
  have hs := flat_of_before _ hgv
  have hw : ∀ w ∈ tables_1, w.before args s = true := fun w h => hts w (List.mem_append_right _ h)
  refine ⟨?_, ?_, ?_, ?_, ?_, ?_, ?_, ?_⟩
  · intro t ht
    simp only [xtexts, List.mem_cons, List.not_mem_nil, or_false] at ht
    rcases ht with rfl | rfl | rfl | rfl | rfl | rfl | rfl | rfl | rfl
    · exact st_text (hw _ (List.mem_of_getElem? (i := 516) (by decide +kernel))) (hs _ (by decide +kernel))
    · exact st_text (hw _ (List.mem_of_getElem? (i := 563) (by decide +kernel))) (hs _ (by decide +kernel))
    · exact st_text (hw _ (List.mem_of_getElem? (i := 889) (by decide +kernel))) (hs _ (by decide +kernel))
    · exact st_text (hw _ (List.mem_of_getElem? (i := 910) (by decide +kernel))) (hs _ (by decide +kernel))
    · exact st_text (hw _ (List.mem_of_getElem? (i := 933) (by decide +kernel))) (hs _ (by decide +kernel))
    · exact st_text (hw _ (List.mem_of_getElem? (i := 943) (by decide +kernel))) (hs _ (by decide +kernel))
    · exact st_text (hw _ (List.mem_of_getElem? (i := 945) (by decide +kernel))) (hs _ (by decide +kernel))
    · exact st_text (hw _ (List.mem_of_getElem? (i := 1090) (by decide +kernel))) (hs _ (by decide +kernel))
    · exact st_text (hw _ (List.mem_of_getElem? (i := 1123) (by decide +kernel))) (hs _ (by decide +kernel))
  · exact fun w h => by
      have h2 := (List.mem_filter.mp h).2
      have h1 := hw w (List.mem_filter.mp h).1
      cases w <;> simp [lw_isN] at h2 <;> exact va_Nw.of rfl h1
  · exact st_over (hw _ (List.mem_of_getElem? (i := 1163) (by decide +kernel)))
  · exact st_Z (q := xt_U) (hw _ (List.mem_of_getElem? (i := 499) (by decide +kernel))) (hw _ (List.mem_of_getElem? (i := 12) (by decide +kernel))) (hs _ (by decide +kernel))
  · exact st_Z (q := xt_S) (hw _ (List.mem_of_getElem? (i := 501) (by decide +kernel))) (hw _ (List.mem_of_getElem? (i := 12) (by decide +kernel))) (hs _ (by decide +kernel))
  · exact st_T (by decide) (hw _ (List.mem_of_getElem? (i := 595) (by decide +kernel))) (hw _ (List.mem_of_getElem? (i := 2) (by decide +kernel))) (hs _ (by decide +kernel)) (hs _ (by decide +kernel)) (fun j hj => by
      rcases (show j = 0 ∨ j = 1 ∨ j = 2 ∨ j = 3 ∨ j = 4 ∨ j = 5 ∨ j = 6 ∨ j = 7 by omega) with rfl | rfl | rfl | rfl | rfl | rfl | rfl | rfl <;> exact hs _ (by decide +kernel))
  · exact st_T (by decide) (hw _ (List.mem_of_getElem? (i := 713) (by decide +kernel))) (hw _ (List.mem_of_getElem? (i := 20) (by decide +kernel))) (hs _ (by decide +kernel)) (hs _ (by decide +kernel)) (fun j hj => by
      rcases (show j = 0 ∨ j = 1 ∨ j = 2 ∨ j = 3 ∨ j = 4 ∨ j = 5 ∨ j = 6 ∨ j = 7 ∨ j = 8 ∨ j = 9 ∨ j = 10 ∨ j = 11 ∨ j = 12 ∨ j = 13 ∨ j = 14 ∨ j = 15 ∨ j = 16 ∨ j = 17 ∨ j = 18 ∨ j = 19 ∨ j = 20 ∨ j = 21 ∨ j = 22 ∨ j = 23 ∨ j = 24 ∨ j = 25 by omega) with rfl | rfl | rfl | rfl | rfl | rfl | rfl | rfl | rfl | rfl | rfl | rfl | rfl | rfl | rfl | rfl | rfl | rfl | rfl | rfl | rfl | rfl | rfl | rfl | rfl | rfl <;> exact hs _ (by decide +kernel))
  · intro q hq
    simp only [xnc, List.mem_cons, List.not_mem_nil, or_false] at hq
    rcases hq with rfl | rfl | rfl <;> exact va_Nc.of (hs _ (by decide +kernel))
