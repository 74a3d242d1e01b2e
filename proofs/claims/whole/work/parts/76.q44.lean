/-! VALID: what is asked of a module besides its functions' code -/
def allB (p : Nat → Bool) : Nat → Nat → Bool
  | 0, _ => true
  | j + 1, t => p t && allB p j (t + 1)
set_option maxRecDepth 20000 in
theorem allB_iff {p : Nat → Bool} : ∀ (j t : Nat), allB p j t = true ↔ ∀ k, t ≤ k → k < t + j → p k = true := by
  intro j
  induction j with
  | zero => intro t; exact ⟨fun _ k h1 h2 => by omega, fun _ => rfl⟩
  | succ j ih =>
    intro t
    show (p t && allB p j (t + 1)) = true ↔ _
    rw [Bool.and_eq_true, ih]
    constructor
    · rintro ⟨h1, h2⟩ k h3 h4
      by_cases hk : k = t
      · subst hk; exact h1
      · exact h2 k (by omega) (by omega)
    · intro h
      exact ⟨h t (Nat.le_refl _) (by omega), fun k h1 h2 => h k (by omega) (by omega)⟩
set_option maxRecDepth 20000 in
theorem allB_cg {p q : Nat → Bool} : ∀ (j t : Nat), (∀ k, t ≤ k → k < t + j → p k = q k) → allB p j t = allB q j t := by
  intro j
  induction j with
  | zero => intro t _; rfl
  | succ j ih =>
    intro t h
    show (p t && allB p j (t + 1)) = (q t && allB q j (t + 1))
    rw [h t (Nat.le_refl _) (by omega), ih (t + 1) (fun k h1 h2 => h k (by omega) (by omega))]
/-- the reference goes on, or refuses with 2 -/
def Vr {τ α : Type} (T : τ → Prop) (F : Out τ α) (b : Bool) (x : α) : Prop := (b = true ∧ F = .ret x) ∨ (b = false ∧ ∃ t, F = .thr t ∧ T t)
set_option maxRecDepth 20000 in
theorem obS_r {τ α β : Type} (a : α) (k : α → Out τ β) : obindS (.ret (.inr a)) k = k a := rfl
set_option maxRecDepth 20000 in
theorem obS_l {τ α β : Type} (b : β) (k : α → Out τ β) : obindS (.ret (.inl b)) k = .ret b := rfl
section MDV
variable {fu : Nat} {f : Nat → Int32} {r n : Int} {mc : KMc} {z : KVt} {vo : KVo} {vf : KVf} {W1 : KW1} {W3 : KW3} {W5 : KW5} {W6 : KW6} {Ex : KEx} {M1 : KM1} {M3 : KM3} {M5 : KM5} {M6 : KM6} {M7 : KM7}
abbrev T2 : KRf × KMc × KVt × KVo × KVf → Prop := fun t => t.1 = 2
/-! functions -/
set_option maxRecDepth 20000 in
theorem vf_c {T1 T3 : Nat} (h3 : W3.functionCount = T3) (h1 : W1.typeCount = T1) (hT : T3 ≤ 30) : ∀ (j t n1 : Nat), t + j = T3 → j < n1 → L2_Va_acceptsFunctions fu W1 W3 n1 t = .ret (allB (fun k => decide (W3.functionTypes k < T1)) j t) := by
  intro j
  induction j with
  | zero =>
    intro t n1 ht hn
    obtain ⟨n1, rfl⟩ : ∃ q, n1 = q + 1 := ⟨n1 - 1, by omega⟩
    rw [L2_Va_acceptsFunctions.eq_2, if_pos (by omega)]; rfl
  | succ j ih =>
    intro t n1 ht hn
    obtain ⟨n1, rfl⟩ : ∃ q, n1 = q + 1 := ⟨n1 - 1, by omega⟩
    rw [L2_Va_acceptsFunctions.eq_2, if_neg (by omega), if_pos (by omega), Int.toNat_natCast, h1]
    show _ = Out.ret (decide (W3.functionTypes t < T1) && allB _ j (t + 1))
    by_cases c : W3.functionTypes t < T1
    · rw [if_pos c, if_pos (show R32 ((t : Int) + 1) by omega), decide_eq_true c, Bool.true_and]
      exact ih (t + 1) n1 (by omega) (by omega)
    · rw [if_neg c, decide_eq_false c, Bool.false_and]
set_option maxRecDepth 20000 in
theorem vf_r {T1 T3 : Nat} {ft : Nat → Int} (h3 : M3.functions = T3) (h1 : M1.types = T1) (hT : T3 ≤ 30) (hT1 : T1 ≤ 20) (hF : FRel T3 ft M3.typeOf) : ∀ (j t n1 : Nat), t + j = T3 → j < n1 → Vr T2 (L67_Mo_validModule fu mc z vo vf M1 M3 n1 r t) (allB (fun k => decide (ft k < T1)) j t) (r, (T3 : Int)) := by
  intro j
  induction j with
  | zero =>
    intro t n1 ht hn
    obtain ⟨n1, rfl⟩ : ∃ q, n1 = q + 1 := ⟨n1 - 1, by omega⟩
    have : t = T3 := by omega
    subst this
    rw [L67_Mo_validModule.eq_2, if_pos (by omega)]; exact Or.inl ⟨rfl, rfl⟩
  | succ j ih =>
    intro t n1 ht hn
    obtain ⟨n1, rfl⟩ : ∃ q, n1 = q + 1 := ⟨n1 - 1, by omega⟩
    obtain ⟨k1, k2, k3⟩ := hF t (by omega)
    rw [L67_Mo_validModule.eq_2, if_neg (by omega)]
    simp only [jp_ite]
    simp only [jp, vl_ite', if_pos (show (0 : Int) ≤ t ∧ (t : Int) < 30 by omega), Int.toNat_natCast, if_pos (show R32 ((t : Int) + 1) by omega)]
    have e1 : (M3.typeOf t).toInt = ft t := by rw [k3, Int32.toInt_toInt64, iI_t (by omega)]
    have e2 : ((iI M1.types).toInt64).toInt = T1 := by rw [h1, Int32.toInt_toInt64, iI_t (by omega)]
    show Vr T2 _ (decide (ft t < T1) && allB _ j (t + 1)) _
    by_cases c : ft t < T1
    · rw [if_neg (show ¬ ((iI M1.types).toInt64).toInt ≤ (M3.typeOf t).toInt by omega), decide_eq_true c, Bool.true_and]
      exact ih (t + 1) n1 (by omega) (by omega)
    · rw [if_pos (show ((iI M1.types).toInt64).toInt ≤ (M3.typeOf t).toInt by omega), decide_eq_false c, Bool.false_and]
      exact Or.inr ⟨rfl, _, rfl, rfl⟩
/-! memory -/
abbrev memG (W5 : KW5) : Bool := decide (W5.pagesAtFirst.toInt ≤ 2 ∧ W5.pagesMost.toInt ≤ 65536 ∧ W5.pagesAtFirst.toInt ≤ W5.pagesMost.toInt)
set_option maxRecDepth 20000 in
theorem vm_c : f_Va_acceptsMemory W5 = .ret (memG W5) := by
  unfold f_Va_acceptsMemory
  simp only [jp]
  rw [show (2 : Int64).toInt = 2 by decide, show (65536 : Int64).toInt = 65536 by decide]
  by_cases c1 : 2 < W5.pagesAtFirst.toInt
  · rw [if_pos c1, show memG W5 = false from decide_eq_false (by omega)]
  rw [if_neg c1]
  by_cases c2 : 65536 < W5.pagesMost.toInt
  · rw [if_pos c2, show memG W5 = false from decide_eq_false (by omega)]
  rw [if_neg c2]
  by_cases c3 : W5.pagesMost.toInt < W5.pagesAtFirst.toInt
  · rw [if_pos c3, show memG W5 = false from decide_eq_false (by omega)]
  · rw [if_neg c3, show memG W5 = true from decide_eq_true (by omega)]
/-! globals -/
set_option maxRecDepth 20000 in
theorem vg_c {T : Nat} (h : W6.globalCount = T) (hT : T ≤ 20) : ∀ (j t n1 : Nat), t + j = T → j < n1 → L2_Va_acceptsGlobals fu W6 n1 t = .ret (allB (fun k => decide (W6.initialTypes k = W6.globalTypes k)) j t) := by
  intro j
  induction j with
  | zero =>
    intro t n1 ht hn
    obtain ⟨n1, rfl⟩ : ∃ q, n1 = q + 1 := ⟨n1 - 1, by omega⟩
    rw [L2_Va_acceptsGlobals.eq_2, if_pos (by omega)]; rfl
  | succ j ih =>
    intro t n1 ht hn
    obtain ⟨n1, rfl⟩ : ∃ q, n1 = q + 1 := ⟨n1 - 1, by omega⟩
    rw [L2_Va_acceptsGlobals.eq_2, if_neg (by omega), if_pos (by omega), if_pos (by omega), Int.toNat_natCast]
    show _ = Out.ret (decide (W6.initialTypes t = W6.globalTypes t) && allB _ j (t + 1))
    by_cases c : W6.initialTypes t = W6.globalTypes t
    · rw [if_pos c, if_pos (show R32 ((t : Int) + 1) by omega), decide_eq_true c, Bool.true_and]
      exact ih (t + 1) n1 (by omega) (by omega)
    · rw [if_neg c, decide_eq_false c, Bool.false_and]
set_option maxRecDepth 20000 in
theorem vg_r {T : Nat} (h : M6.globals = T) (hT : T ≤ 20) (hG : GRel T W6 M6) : ∀ (j t n1 : Nat), t + j = T → j < n1 → Vr T2 (L116_Mo_validModule fu mc z vo vf M6 n1 r t) (allB (fun k => decide (W6.initialTypes k = W6.globalTypes k)) j t) (r, (T : Int)) := by
  intro j
  induction j with
  | zero =>
    intro t n1 ht hn
    obtain ⟨n1, rfl⟩ : ∃ q, n1 = q + 1 := ⟨n1 - 1, by omega⟩
    have : t = T := by omega
    subst this
    rw [L116_Mo_validModule.eq_2, if_pos (by omega)]; exact Or.inl ⟨rfl, rfl⟩
  | succ j ih =>
    intro t n1 ht hn
    obtain ⟨n1, rfl⟩ : ∃ q, n1 = q + 1 := ⟨n1 - 1, by omega⟩
    obtain ⟨k1, k2, k3, _⟩ := hG t (by omega)
    rw [L116_Mo_validModule.eq_2, if_neg (by omega)]
    simp only [jp_ite]
    simp only [jp, vl_ite, if_pos (show (0 : Int) ≤ t ∧ (t : Int) < 20 by omega), Int.toNat_natCast, if_pos (show R32 ((t : Int) + 1) by omega)]
    show Vr T2 _ (decide (W6.initialTypes t = W6.globalTypes t) && allB _ j (t + 1)) _
    by_cases c : W6.initialTypes t = W6.globalTypes t
    · rw [if_pos (by rw [← k1, ← k3]; exact c.symm), decide_eq_true c, Bool.true_and]
      exact ih (t + 1) n1 (by omega) (by omega)
    · rw [if_neg (by rw [← k1, ← k3]; exact fun q => c q.symm), decide_eq_false c, Bool.false_and]
      exact Or.inr ⟨rfl, _, rfl, rfl⟩
/-! names -/
abbrev nmB (f : Nat → Int32) (M7 : KM7) (y x : Nat) : Bool := decide (M7.nameLength y = M7.nameLength x) && allB (fun i => decide ((f ((M7.nameAt y).toNat + i)).toInt = (f ((M7.nameAt x).toNat + i)).toInt)) (M7.nameLength x).toNat 0
set_option maxRecDepth 20000 in
theorem nl_c {T x y : Nat} {l : Nat} (hE : ERel f T Ex M7) (hT : T ≤ 40) (hx : x < T) (hy : y < T) (hl : M7.nameLength y = l) (hxl : M7.nameLength x = l) : ∀ (j k n1 : Nat), k + j = l → j < n1 → L16_Ex_isNamedN fu Ex x ((y : Int) * 30) l n1 k = .ret (allB (fun i => decide ((f ((M7.nameAt y).toNat + i)).toInt = (f ((M7.nameAt x).toNat + i)).toInt)) j k) := by
  obtain ⟨a1, a2, a3, a4, a5, a6, a7, a8, _⟩ := hE x hx
  obtain ⟨b1, b2, b3, b4, b5, b6, b7, b8, _⟩ := hE y hy
  intro j
  induction j with
  | zero =>
    intro k n1 hk hn
    obtain ⟨n1, rfl⟩ : ∃ q, n1 = q + 1 := ⟨n1 - 1, by omega⟩
    rw [L16_Ex_isNamedN.eq_2, if_pos (by omega)]; rfl
  | succ j ih =>
    intro k n1 hk hn
    obtain ⟨n1, rfl⟩ : ∃ q, n1 = q + 1 := ⟨n1 - 1, by omega⟩
    rw [L16_Ex_isNamedN.eq_2, if_neg (by omega), if_pos (show R32 ((x : Int) * 30) by omega), if_pos (show R32 ((x : Int) * 30 + k) by omega), if_pos (by omega), if_pos (show R32 ((y : Int) * 30 + k) by omega), if_pos (by omega), show ((x : Int) * 30 + k).toNat = x * 30 + k by omega, show ((y : Int) * 30 + k).toNat = y * 30 + k by omega, a8 k (by omega), b8 k (by omega)]
    show _ = Out.ret (decide ((f ((M7.nameAt y).toNat + k)).toInt = (f ((M7.nameAt x).toNat + k)).toInt) && allB _ j (k + 1))
    by_cases c : (f ((M7.nameAt y).toNat + k)).toInt = (f ((M7.nameAt x).toNat + k)).toInt
    · rw [if_pos c.symm, if_pos (show R32 ((k : Int) + 1) by omega), decide_eq_true c, Bool.true_and]
      exact ih (k + 1) n1 (by omega) (by omega)
    · rw [if_neg (fun q => c q.symm), decide_eq_false c, Bool.false_and]
set_option maxRecDepth 20000 in
theorem nm_c {T x y : Nat} (hfu : 40 < fu) (hE : ERel f T Ex M7) (hT : T ≤ 40) (hx : x < T) (hy : y < T) : f_Ex_isNamedN fu Ex x ((y : Int) * 30) (Ex.nameLengths y) = .ret (nmB f M7 y x) := by
  obtain ⟨a1, a2, a3, a4, a5, a6, a7, a8, _⟩ := hE x hx
  obtain ⟨b1, b2, b3, b4, b5, b6, b7, b8, _⟩ := hE y hy
  unfold f_Ex_isNamedN
  rw [if_pos (by omega), Int.toNat_natCast, a3, b3]
  by_cases c : M7.nameLength x = M7.nameLength y
  · obtain ⟨l, hl⟩ := Int.eq_ofNat_of_zero_le b4
    have hxl : M7.nameLength x = l := c.trans hl
    have k := nl_c (fu := fu) hE hT hx hy hl hxl l 0 fu (by omega) (by omega)
    rw [show ((0 : Nat) : Int) = 0 from rfl] at k
    rw [if_pos c, hl, k]
    show _ = Out.ret (decide (M7.nameLength y = M7.nameLength x) && _)
    rw [decide_eq_true c.symm, Bool.true_and, hxl, Int.toNat_natCast]
  · rw [if_neg c]
    show _ = Out.ret (decide (M7.nameLength y = M7.nameLength x) && _)
    rw [decide_eq_false (fun q => c q.symm), Bool.false_and]
set_option maxRecDepth 20000 in
theorem nl_r {T x y : Nat} {l : Nat} (hE : ERel f T Ex M7) (hT : T ≤ 40) (hx : x < T) (hy : y < T) (hl : M7.nameLength y = l) (hxl : M7.nameLength x = l) : ∀ (j k n1 : Nat), k + j = l → j < n1 → L19_Mo_sameNameN fu (KMt.mk f n) M7 y (M7.nameAt x) l n1 k = .ret (allB (fun i => decide ((f ((M7.nameAt y).toNat + i)).toInt = (f ((M7.nameAt x).toNat + i)).toInt)) j k) := by
  obtain ⟨a1, a2, a3, a4, a5, a6, a7, a8, _⟩ := hE x hx
  obtain ⟨b1, b2, b3, b4, b5, b6, b7, b8, _⟩ := hE y hy
  intro j
  induction j with
  | zero =>
    intro k n1 hk hn
    obtain ⟨n1, rfl⟩ : ∃ q, n1 = q + 1 := ⟨n1 - 1, by omega⟩
    rw [L19_Mo_sameNameN.eq_2, if_pos (by omega)]; rfl
  | succ j ih =>
    intro k n1 hk hn
    obtain ⟨n1, rfl⟩ : ∃ q, n1 = q + 1 := ⟨n1 - 1, by omega⟩
    rw [L19_Mo_sameNameN.eq_2, if_neg (by omega), if_pos (by omega), Int.toNat_natCast, if_pos (show R32 (M7.nameAt y + k) by omega), if_pos (by omega), if_pos (show R32 (M7.nameAt x + k) by omega), if_pos (by omega), show (M7.nameAt y + k).toNat = (M7.nameAt y).toNat + k by omega, show (M7.nameAt x + k).toNat = (M7.nameAt x).toNat + k by omega]
    show _ = Out.ret (decide ((f ((M7.nameAt y).toNat + k)).toInt = (f ((M7.nameAt x).toNat + k)).toInt) && allB _ j (k + 1))
    by_cases c : (f ((M7.nameAt y).toNat + k)).toInt = (f ((M7.nameAt x).toNat + k)).toInt
    · rw [if_pos c, if_pos (show R32 ((k : Int) + 1) by omega), decide_eq_true c, Bool.true_and]
      exact ih (k + 1) n1 (by omega) (by omega)
    · rw [if_neg c, decide_eq_false c, Bool.false_and]
set_option maxRecDepth 20000 in
theorem nmr_r {T x y : Nat} (hfu : 40 < fu) (hE : ERel f T Ex M7) (hT : T ≤ 40) (hx : x < T) (hy : y < T) : f_Mo_sameNameN fu (KMt.mk f n) M7 y (M7.nameAt x) (M7.nameLength x) = .ret (nmB f M7 y x) := by
  obtain ⟨a1, a2, a3, a4, a5, a6, a7, a8, _⟩ := hE x hx
  obtain ⟨b1, b2, b3, b4, b5, b6, b7, b8, _⟩ := hE y hy
  unfold f_Mo_sameNameN
  rw [if_pos (by omega), Int.toNat_natCast]
  by_cases c : M7.nameLength y = M7.nameLength x
  · obtain ⟨l, hl⟩ := Int.eq_ofNat_of_zero_le a4
    have k := nl_r (fu := fu) (n := n) hE hT hx hy (c.trans hl) hl l 0 fu (by omega) (by omega)
    rw [show ((0 : Nat) : Int) = 0 from rfl] at k
    rw [if_pos c, hl, k]
    show _ = Out.ret (decide (M7.nameLength y = M7.nameLength x) && _)
    rw [decide_eq_true c, Bool.true_and, hl, Int.toNat_natCast]
  · rw [if_neg c]
    show _ = Out.ret (decide (M7.nameLength y = M7.nameLength x) && _)
    rw [decide_eq_false c, Bool.false_and]
/-- names of x and of all before it -/
abbrev nmX (f : Nat → Int32) (M7 : KM7) (x : Nat) : Bool := allB (fun y => !nmB f M7 y x) x 0
set_option maxRecDepth 20000 in
theorem dn_c {T x : Nat} (hfu : 40 < fu) (hE : ERel f T Ex M7) (hT : T ≤ 40) (hx : x < T) : ∀ (j y n1 : Nat), y + j = x → j < n1 → L12_Ex_haveDifferentNames fu Ex x n1 y = .ret (if allB (fun y => !nmB f M7 y x) j y = true then .inr (x : Int) else .inl false) := by
  intro j
  induction j with
  | zero =>
    intro y n1 hy hn
    obtain ⟨n1, rfl⟩ : ∃ q, n1 = q + 1 := ⟨n1 - 1, by omega⟩
    have : y = x := by omega
    subst this
    rw [L12_Ex_haveDifferentNames.eq_2, if_pos (by omega)]; rfl
  | succ j ih =>
    intro y n1 hy hn
    obtain ⟨n1, rfl⟩ : ∃ q, n1 = q + 1 := ⟨n1 - 1, by omega⟩
    rw [L12_Ex_haveDifferentNames.eq_2, if_neg (by omega), if_pos (show R32 ((y : Int) * 30) by omega), if_pos (by omega), Int.toNat_natCast, nm_c hfu hE hT hx (by omega), obind_ret]
    show _ = Out.ret (if ((!nmB f M7 y x) && allB _ j (y + 1)) = true then _ else _)
    by_cases c : nmB f M7 y x = true
    · rw [if_pos c, c]; rfl
    · rw [if_neg c, if_pos (show R32 ((y : Int) + 1) by omega), Bool.eq_false_iff.mpr c]
      show _ = Out.ret (if (true && allB _ j (y + 1)) = true then _ else _)
      rw [Bool.true_and]
      exact ih (y + 1) n1 (by omega) (by omega)
set_option maxRecDepth 20000 in
theorem dx_c {T : Nat} (hfu : 40 < fu) (hE : ERel f T Ex M7) (hsz : Ex.size = T) (hT : T ≤ 40) : ∀ (j x n1 : Nat), x + j = T → j < n1 → L2_Ex_haveDifferentNames fu Ex n1 x = .ret (allB (nmX f M7) j x) := by
  intro j
  induction j with
  | zero =>
    intro x n1 hx hn
    obtain ⟨n1, rfl⟩ : ∃ q, n1 = q + 1 := ⟨n1 - 1, by omega⟩
    rw [L2_Ex_haveDifferentNames.eq_2, if_pos (by omega)]; rfl
  | succ j ih =>
    intro x n1 hx hn
    obtain ⟨n1, rfl⟩ : ∃ q, n1 = q + 1 := ⟨n1 - 1, by omega⟩
    rw [L2_Ex_haveDifferentNames.eq_2, if_neg (by omega)]
    have k := dn_c (fu := fu) hfu hE hT (show x < T by omega) x 0 fu (by omega) (by omega)
    rw [show ((0 : Nat) : Int) = 0 from rfl] at k
    rw [k]
    show _ = Out.ret (nmX f M7 x && allB _ j (x + 1))
    by_cases c : nmX f M7 x = true
    · rw [if_pos c, c, Bool.true_and, obS_r, if_pos (show R32 ((x : Int) + 1) by omega)]
      exact ih (x + 1) n1 (by omega) (by omega)
    · rw [if_neg c, Bool.eq_false_iff.mpr c, Bool.false_and, obS_l]
set_option maxRecDepth 20000 in
theorem dn_r {T x : Nat} (hfu : 40 < fu) (hE : ERel f T Ex M7) (hT : T ≤ 40) (hx : x < T) : ∀ (j y n1 : Nat), y + j = x → j < n1 → Vr T2 (L253_Mo_validModule fu mc z vo vf (KMt.mk f n) M7 x n1 r y) (allB (fun y => !nmB f M7 y x) j y) (r, (x : Int)) := by
  intro j
  induction j with
  | zero =>
    intro y n1 hy hn
    obtain ⟨n1, rfl⟩ : ∃ q, n1 = q + 1 := ⟨n1 - 1, by omega⟩
    have : y = x := by omega
    subst this
    rw [L253_Mo_validModule.eq_2, if_pos (by omega)]; exact Or.inl ⟨rfl, rfl⟩
  | succ j ih =>
    intro y n1 hy hn
    obtain ⟨n1, rfl⟩ : ∃ q, n1 = q + 1 := ⟨n1 - 1, by omega⟩
    rw [L253_Mo_validModule.eq_2, if_neg (by omega), if_pos (by omega), if_pos (by omega), Int.toNat_natCast, nmr_r hfu hE hT hx (by omega), obind_ret]
    simp only [jp_ite]
    simp only [jp, vl_ite', if_pos (show R32 ((y : Int) + 1) by omega)]
    show Vr T2 _ ((!nmB f M7 y x) && allB _ j (y + 1)) _
    by_cases c : nmB f M7 y x = true
    · rw [if_pos c, c]
      exact Or.inr ⟨rfl, _, rfl, rfl⟩
    · rw [if_neg c, Bool.eq_false_iff.mpr c]
      show Vr T2 _ (true && allB _ j (y + 1)) _
      rw [Bool.true_and]
      exact ih (y + 1) n1 (by omega) (by omega)
end MDV
