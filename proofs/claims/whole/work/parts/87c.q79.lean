/-! FACES: find -/
section FCC
variable {fu : Nat} {so : KSo} {wr : KWr} {mi : KMi} {mt : KMt} {Ex : KEx} {M7 : KM7}
set_option maxRecDepth 20000 in
theorem lp_same {e : Nat} {N : Int} (he : e < 40) (ht : ∀ k, k < 2000 → so.bytes k = mi.tape k) (h1 : M7.nameLength e = N) (h2 : N ≤ 30) (h3 : 0 ≤ M7.nameAt e) (h4 : M7.nameAt e + N ≤ 2000) (h5 : ∀ k : Nat, (k : Int) < N → Ex.names (e * 30 + k) = mt.bytes ((M7.nameAt e).toNat + k)) : ∀ (j k n1 n2 : Nat), ((k + j : Nat) : Int) = N → j < n1 → j < n2 → ∃ t : Bool, L16_Ex_isNamedT fu so Ex e 0 N n1 k = .ret t ∧ L19_Mo_sameNameT fu mi mt M7 e 0 N n2 k = .ret t := by
  intro j
  induction j with
  | zero =>
    intro k n1 n2 hk hn1 hn2
    obtain ⟨n1, rfl⟩ : ∃ q, n1 = q + 1 := ⟨n1 - 1, by omega⟩
    obtain ⟨n2, rfl⟩ : ∃ q, n2 = q + 1 := ⟨n2 - 1, by omega⟩
    exact ⟨true, by rw [L16_Ex_isNamedT.eq_2, if_pos (by omega)], by rw [L19_Mo_sameNameT.eq_2, if_pos (by omega)]⟩
  | succ j ih =>
    intro k n1 n2 hk hn1 hn2
    obtain ⟨n1, rfl⟩ : ∃ q, n1 = q + 1 := ⟨n1 - 1, by omega⟩
    obtain ⟨n2, rfl⟩ : ∃ q, n2 = q + 1 := ⟨n2 - 1, by omega⟩
    have i1 : ((e : Int) * 30 + (k : Int)).toNat = e * 30 + k := by omega
    have i2 : ((0 : Int) + (k : Int)).toNat = k := by omega
    have i3 : (M7.nameAt e + (k : Int)).toNat = (M7.nameAt e).toNat + k := by omega
    have e1 : L16_Ex_isNamedT fu so Ex e 0 N (n1 + 1) k = if (mt.bytes ((M7.nameAt e).toNat + k)).toInt = (mi.tape k).toInt then L16_Ex_isNamedT fu so Ex e 0 N n1 ((k + 1 : Nat) : Int) else .ret false := by
      rw [L16_Ex_isNamedT.eq_2, if_neg (by omega), if_pos (by omega), if_pos (by omega), if_pos (by omega), if_pos (by omega), if_pos (by omega), i1, i2, h5 k (by omega), ht k (by omega), if_pos (show R32 ((k : Int) + 1) by omega), show (k : Int) + 1 = ((k + 1 : Nat) : Int) from rfl]
    have e2 : L19_Mo_sameNameT fu mi mt M7 e 0 N (n2 + 1) k = if (mt.bytes ((M7.nameAt e).toNat + k)).toInt = (mi.tape k).toInt then L19_Mo_sameNameT fu mi mt M7 e 0 N n2 ((k + 1 : Nat) : Int) else .ret false := by
      rw [L19_Mo_sameNameT.eq_2, if_neg (by omega), if_pos (by omega), Int.toNat_natCast, if_pos (by omega), if_pos (by omega), if_pos (by omega), if_pos (by omega), i2, i3, if_pos (show R32 ((k : Int) + 1) by omega), show (k : Int) + 1 = ((k + 1 : Nat) : Int) from rfl]
    rw [e1, e2]
    by_cases c : (mt.bytes ((M7.nameAt e).toNat + k)).toInt = (mi.tape k).toInt
    · rw [if_pos c, if_pos c]
      exact ih (k + 1) n1 n2 (by omega) (by omega) (by omega)
    · exact ⟨false, by rw [if_neg c], by rw [if_neg c]⟩
/-- what find leaves of the counters -/
abbrev MI0 (mi : KMi) : KMi := KMi.mk mi.tape 0 mi.there mi.reason mi.arguments mi.argumentCount 0
set_option maxRecDepth 20000 in
theorem lp_find {T : Nat} (hfu : 2100 < fu) (hth : mi.there = true) (hT : T ≤ 40) (h1 : Ex.size = T) (h2 : M7.exports = T) (hE : ERel mt.bytes T Ex M7) (ht : ∀ k, k < 2000 → so.bytes k = mi.tape k) : ∀ (j e n1 n2 : Nat), e + j = T → j < n1 → j < n2 → ∃ x : Int, L2_Ex_functionNamed fu so Ex mi.taped n1 e = .ret x ∧ L25_Mo_find fu mi mt M7 n2 e = .ret (MI0 mi, x) := by
  intro j
  induction j with
  | zero =>
    intro e n1 n2 hk hn1 hn2
    obtain ⟨n1, rfl⟩ : ∃ q, n1 = q + 1 := ⟨n1 - 1, by omega⟩
    obtain ⟨n2, rfl⟩ : ∃ q, n2 = q + 1 := ⟨n2 - 1, by omega⟩
    refine ⟨-1, by rw [L2_Ex_functionNamed.eq_2, if_pos (by omega)], ?_⟩
    rw [L25_Mo_find.eq_2]
    simp only [jp]
    rw [if_pos hth, if_pos (by omega)]
  | succ j ih =>
    intro e n1 n2 hk hn1 hn2
    obtain ⟨n1, rfl⟩ : ∃ q, n1 = q + 1 := ⟨n1 - 1, by omega⟩
    obtain ⟨n2, rfl⟩ : ∃ q, n2 = q + 1 := ⟨n2 - 1, by omega⟩
    obtain ⟨r1, r2, r3, r4, r5, r6, r7, r8, r9, r10, r11⟩ := hE e (by omega)
    obtain ⟨x, k1, k2⟩ := ih (e + 1) n1 n2 (by omega) (by omega) (by omega)
    have hex : ∃ t : Bool, f_Ex_isNamedT fu so Ex e 0 mi.taped = .ret t ∧ f_Mo_sameNameT fu (MI0 mi) mt M7 e 0 mi.taped = .ret t := by
      unfold f_Ex_isNamedT f_Mo_sameNameT
      rw [if_pos (show (0 : Int) ≤ (e : Int) ∧ (e : Int) < 40 by omega), if_pos (show (0 : Int) ≤ (e : Int) ∧ (e : Int) < 40 by omega), Int.toNat_natCast, r3]
      by_cases c : M7.nameLength e = mi.taped
      · rw [if_pos c, if_pos c]
        obtain ⟨L, hL⟩ := Int.eq_ofNat_of_zero_le r4
        obtain ⟨t, q1, q2⟩ := lp_same (fu := fu) (mi := MI0 mi) (mt := mt) (Ex := Ex) (M7 := M7) (so := so) (e := e) (N := mi.taped) (by omega) ht c (by omega) r6 (by omega) (fun k hk => r8 k (by omega)) L 0 fu fu (by omega) (by omega) (by omega)
        rw [show ((0 : Nat) : Int) = 0 from rfl] at q1 q2
        exact ⟨t, q1, q2⟩
      · exact ⟨false, by rw [if_neg c], by rw [if_neg c]⟩
    obtain ⟨t, q1, q2⟩ := hex
    have e1 : L2_Ex_functionNamed fu so Ex mi.taped (n1 + 1) e = if Ex.kinds e = 0 ∧ t = true then .ret (Ex.indices e) else .ret x := by
      rw [L2_Ex_functionNamed.eq_2, if_neg (by omega), if_pos (by omega)]
      simp only [jp]
      rw [Int.toNat_natCast, if_pos (show R32 ((e : Int) + 1) by omega), show (e : Int) + 1 = ((e + 1 : Nat) : Int) from rfl, k1, q1, obind_ret]
      by_cases c : Ex.kinds e = 0
      · rw [if_pos c]
        by_cases ct : t = true
        · rw [if_pos ct, if_pos (show (0 : Int) ≤ (e : Int) ∧ (e : Int) < 40 by omega), if_pos ⟨c, ct⟩]
        · rw [if_neg ct, if_neg (fun q => ct q.2)]
      · rw [if_neg c, if_neg (fun q => c q.1)]
    have e2 : L25_Mo_find fu mi mt M7 (n2 + 1) e = if Ex.kinds e = 0 ∧ t = true then .ret (MI0 mi, Ex.indices e) else .ret (MI0 mi, x) := by
      rw [L25_Mo_find.eq_2]
      simp only [jp]
      rw [if_pos hth, if_neg (by omega), if_pos (show (0 : Int) ≤ (e : Int) ∧ (e : Int) < 40 by omega), Int.toNat_natCast, if_pos (show R32 ((e : Int) + 1) by omega), show (e : Int) + 1 = ((e + 1 : Nat) : Int) from rfl, k2, show f_Mo_sameNameT fu (KMi.mk mi.tape 0 mi.there mi.reason mi.arguments mi.argumentCount 0) mt M7 e 0 mi.taped = .ret t from q2, obind_ret, ← r1, r11, Int32.toInt32_toInt64, iI_t (show R32 (Ex.indices e) by omega)]
      by_cases c : Ex.kinds e = 0
      · rw [if_pos c]
        by_cases ct : t = true
        · rw [if_pos ct, if_pos (show (0 : Int) ≤ (e : Int) ∧ (e : Int) < 40 by omega), if_pos ⟨c, ct⟩]
        · rw [if_neg ct, if_neg (fun q => ct q.2)]
      · rw [if_neg c, if_neg (fun q => c q.1)]
    rw [e1, e2]
    by_cases c : Ex.kinds e = 0 ∧ t = true
    · exact ⟨Ex.indices e, by rw [if_pos c], by rw [if_pos c]⟩
    · exact ⟨x, by rw [if_neg c], by rw [if_neg c]⟩
set_option maxRecDepth 20000 in
theorem p_find (hfu : 2100 < fu) (h : TP so wr mi) (hL : mi.there = true → R7 mt.bytes Ex M7) : ∃ (wr' : KWr) (mi' : KMi) (x : Int), f_WR_find fu so Ex wr = .ret (wr', x) ∧ f_Mo_find fu mi mt M7 = .ret (mi', x) ∧ TP so wr' mi' ∧ mi'.there = mi.there ∧ mi'.arguments = mi.arguments := by
  obtain ⟨t1, t2, t3, t4, t5, t6, t7, t8, t9⟩ := h
  unfold f_WR_find f_Mo_find f_Ex_functionNamed
  simp only [jp]
  rw [t2, t8]
  have hT : TP so (KWr.mk 0 wr.argumentCount mi.there wr.reason) (MI0 mi) := ⟨t1, rfl, Int.le_refl _, show (0 : Int) ≤ 2000 by decide, t5, t6, t7, rfl, t9⟩
  by_cases c : mi.there = true
  · obtain ⟨T, a1, a2, a3, a4⟩ := hL c
    obtain ⟨x, k1, k2⟩ := lp_find (fu := fu) (so := so) hfu c a1 a2 a3 a4 (fun k hk => (t1 k hk).1) T 0 fu fu (by omega) (by omega) (by omega)
    rw [show ((0 : Nat) : Int) = 0 from rfl] at k1 k2
    rw [if_pos c, k1, k2, obind_ret]
    exact ⟨_, _, x, rfl, rfl, hT, rfl, rfl⟩
  · obtain ⟨n2, hn⟩ : ∃ q, fu = q + 1 := ⟨fu - 1, by omega⟩
    have k2 : L25_Mo_find fu mi mt M7 fu 0 = .ret (MI0 mi, -1) := by
      have e : ∀ n, L25_Mo_find fu mi mt M7 (n + 1) 0 = .ret (MI0 mi, -1) := fun n => by
        rw [L25_Mo_find.eq_2]
        simp only [jp]
        rw [if_neg c]
      have := e n2
      rw [← hn] at this
      exact this
    rw [if_neg c, k2]
    exact ⟨_, _, -1, rfl, rfl, hT, rfl, rfl⟩
end FCC
