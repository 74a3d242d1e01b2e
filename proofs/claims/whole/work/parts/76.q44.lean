/-! VALID: what is asked of a module besides its functions' code -/
def allB (p : Nat → Bool) : Nat → Nat → Bool
  | 0, _ => true
  | j + 1, t => p t && allB p j (t + 1)
set_option maxRecDepth 20000 in
theorem allB_iff {p : Nat → Bool} : ∀ (j t : Nat), allB p j t = true ↔ ∀ k, t ≤ k → k < t + j → p k = true := by
  intro j
  induction j with
  | zero => intro t; exact ⟨fun _ k h1 h2 => by omega, fun _ => rfl⟩
  | succ j ih =>
    intro t
    show (p t && allB p j (t + 1)) = true ↔ _
    rw [Bool.and_eq_true, ih]
    constructor
    · rintro ⟨h1, h2⟩ k h3 h4
      by_cases hk : k = t
      · subst hk; exact h1
      · exact h2 k (by omega) (by omega)
    · intro h
      exact ⟨h t (Nat.le_refl _) (by omega), fun k h1 h2 => h k (by omega) (by omega)⟩
set_option maxRecDepth 20000 in
theorem allB_cg {p q : Nat → Bool} : ∀ (j t : Nat), (∀ k, t ≤ k → k < t + j → p k = q k) → allB p j t = allB q j t := by
  intro j
  induction j with
  | zero => intro t _; rfl
  | succ j ih =>
    intro t h
    show (p t && allB p j (t + 1)) = (q t && allB q j (t + 1))
    rw [h t (Nat.le_refl _) (by omega), ih (t + 1) (fun k h1 h2 => h k (by omega) (by omega))]
/-- the reference goes on, or refuses with 2 -/
def Vr {τ α : Type} (T : τ → Prop) (F : Out τ α) (b : Bool) (x : α) : Prop := (b = true ∧ F = .ret x) ∨ (b = false ∧ ∃ t, F = .thr t ∧ T t)
set_option maxRecDepth 20000 in
theorem obS_r {τ α β : Type} (a : α) (k : α → Out τ β) : obindS (.ret (.inr a)) k = k a := rfl
set_option maxRecDepth 20000 in
theorem obS_l {τ α β : Type} (b : β) (k : α → Out τ β) : obindS (.ret (.inl b)) k = .ret b := rfl
section MDV
variable {fu : Nat} {f : Nat → Int32} {r n : Int} {mc : KMc} {z : KVt} {vo : KVo} {vf : KVf} {W1 : KW1} {W3 : KW3} {W5 : KW5} {W6 : KW6} {Ex : KEx} {M1 : KM1} {M3 : KM3} {M5 : KM5} {M6 : KM6} {M7 : KM7}
abbrev T2 : KRf × KMc × KVt × KVo × KVf → Prop := fun t => t.1 = 2
/-! functions -/
set_option maxRecDepth 20000 in
theorem vf_c {T1 T3 : Nat} (h3 : W3.functionCount = T3) (h1 : W1.typeCount = T1) (hT : T3 ≤ 30) : ∀ (j t n1 : Nat), t + j = T3 → j < n1 → L2_Va_acceptsFunctions fu W1 W3 n1 t = .ret (allB (fun k => decide (W3.functionTypes k < T1)) j t) := by
  intro j
  induction j with
  | zero =>
    intro t n1 ht hn
    obtain ⟨n1, rfl⟩ : ∃ q, n1 = q + 1 := ⟨n1 - 1, by omega⟩
    rw [L2_Va_acceptsFunctions.eq_2, if_pos (by omega)]; rfl
  | succ j ih =>
    intro t n1 ht hn
    obtain ⟨n1, rfl⟩ : ∃ q, n1 = q + 1 := ⟨n1 - 1, by omega⟩
    rw [L2_Va_acceptsFunctions.eq_2, if_neg (by omega), if_pos (by omega), Int.toNat_natCast, h1]
    show _ = Out.ret (decide (W3.functionTypes t < T1) && allB _ j (t + 1))
    by_cases c : W3.functionTypes t < T1
    · rw [if_pos c, if_pos (show R32 ((t : Int) + 1) by omega), decide_eq_true c, Bool.true_and]
      exact ih (t + 1) n1 (by omega) (by omega)
    · rw [if_neg c, decide_eq_false c, Bool.false_and]
set_option maxRecDepth 20000 in
theorem vf_r {T1 T3 : Nat} {ft : Nat → Int} (h3 : M3.functions = T3) (h1 : M1.types = T1) (hT : T3 ≤ 30) (hT1 : T1 ≤ 20) (hF : FRel T3 ft M3.typeOf) : ∀ (j t n1 : Nat), t + j = T3 → j < n1 → Vr T2 (L67_Mo_validModule fu mc z vo vf M1 M3 n1 r t) (allB (fun k => decide (ft k < T1)) j t) (r, (T3 : Int)) := by
  intro j
  induction j with
  | zero =>
    intro t n1 ht hn
    obtain ⟨n1, rfl⟩ : ∃ q, n1 = q + 1 := ⟨n1 - 1, by omega⟩
    have : t = T3 := by omega
    subst this
    rw [L67_Mo_validModule.eq_2, if_pos (by omega)]; exact Or.inl ⟨rfl, rfl⟩
  | succ j ih =>
    intro t n1 ht hn
    obtain ⟨n1, rfl⟩ : ∃ q, n1 = q + 1 := ⟨n1 - 1, by omega⟩
    obtain ⟨k1, k2, k3⟩ := hF t (by omega)
    rw [L67_Mo_validModule.eq_2, if_neg (by omega)]
    simp only [jp_ite]
    simp only [jp, vl_ite', if_pos (show (0 : Int) ≤ t ∧ (t : Int) < 30 by omega), Int.toNat_natCast, if_pos (show R32 ((t : Int) + 1) by omega)]
    have e1 : (M3.typeOf t).toInt = ft t := by rw [k3, Int32.toInt_toInt64, iI_t (by omega)]
    have e2 : ((iI M1.types).toInt64).toInt = T1 := by rw [h1, Int32.toInt_toInt64, iI_t (by omega)]
    show Vr T2 _ (decide (ft t < T1) && allB _ j (t + 1)) _
    by_cases c : ft t < T1
    · rw [if_neg (show ¬ ((iI M1.types).toInt64).toInt ≤ (M3.typeOf t).toInt by omega), decide_eq_true c, Bool.true_and]
      exact ih (t + 1) n1 (by omega) (by omega)
    · rw [if_pos (show ((iI M1.types).toInt64).toInt ≤ (M3.typeOf t).toInt by omega), decide_eq_false c, Bool.false_and]
      exact Or.inr ⟨rfl, _, rfl, rfl⟩
/-! memory -/
abbrev memG (W5 : KW5) : Bool := decide (W5.pagesAtFirst.toInt ≤ 2 ∧ W5.pagesMost.toInt ≤ 65536 ∧ W5.pagesAtFirst.toInt ≤ W5.pagesMost.toInt)
set_option maxRecDepth 20000 in
theorem vm_c : f_Va_acceptsMemory W5 = .ret (memG W5) := by
  unfold f_Va_acceptsMemory
  simp only [jp]
  rw [show (2 : Int64).toInt = 2 by decide, show (65536 : Int64).toInt = 65536 by decide]
  by_cases c1 : 2 < W5.pagesAtFirst.toInt
  · rw [if_pos c1, show memG W5 = false from decide_eq_false (by omega)]
  rw [if_neg c1]
  by_cases c2 : 65536 < W5.pagesMost.toInt
  · rw [if_pos c2, show memG W5 = false from decide_eq_false (by omega)]
  rw [if_neg c2]
  by_cases c3 : W5.pagesMost.toInt < W5.pagesAtFirst.toInt
  · rw [if_pos c3, show memG W5 = false from decide_eq_false (by omega)]
  · rw [if_neg c3, show memG W5 = true from decide_eq_true (by omega)]
/-! globals -/
set_option maxRecDepth 20000 in
theorem vg_c {T : Nat} (h : W6.globalCount = T) (hT : T ≤ 20) : ∀ (j t n1 : Nat), t + j = T → j < n1 → L2_Va_acceptsGlobals fu W6 n1 t = .ret (allB (fun k => decide (W6.initialTypes k = W6.globalTypes k)) j t) := by
  intro j
  induction j with
  | zero =>
    intro t n1 ht hn
    obtain ⟨n1, rfl⟩ : ∃ q, n1 = q + 1 := ⟨n1 - 1, by omega⟩
    rw [L2_Va_acceptsGlobals.eq_2, if_pos (by omega)]; rfl
  | succ j ih =>
    intro t n1 ht hn
    obtain ⟨n1, rfl⟩ : ∃ q, n1 = q + 1 := ⟨n1 - 1, by omega⟩
    rw [L2_Va_acceptsGlobals.eq_2, if_neg (by omega), if_pos (by omega), if_pos (by omega), Int.toNat_natCast]
    show _ = Out.ret (decide (W6.initialTypes t = W6.globalTypes t) && allB _ j (t + 1))
    by_cases c : W6.initialTypes t = W6.globalTypes t
    · rw [if_pos c, if_pos (show R32 ((t : Int) + 1) by omega), decide_eq_true c, Bool.true_and]
      exact ih (t + 1) n1 (by omega) (by omega)
    · rw [if_neg c, decide_eq_false c, Bool.false_and]
set_option maxRecDepth 20000 in
theorem vg_r {T : Nat} (h : M6.globals = T) (hT : T ≤ 20) (hG : GRel T W6 M6) : ∀ (j t n1 : Nat), t + j = T → j < n1 → Vr T2 (L116_Mo_validModule fu mc z vo vf M6 n1 r t) (allB (fun k => decide (W6.initialTypes k = W6.globalTypes k)) j t) (r, (T : Int)) := by
  intro j
  induction j with
  | zero =>
    intro t n1 ht hn
    obtain ⟨n1, rfl⟩ : ∃ q, n1 = q + 1 := ⟨n1 - 1, by omega⟩
    have : t = T := by omega
    subst this
    rw [L116_Mo_validModule.eq_2, if_pos (by omega)]; exact Or.inl ⟨rfl, rfl⟩
  | succ j ih =>
    intro t n1 ht hn
    obtain ⟨n1, rfl⟩ : ∃ q, n1 = q + 1 := ⟨n1 - 1, by omega⟩
    obtain ⟨k1, k2, k3, _⟩ := hG t (by omega)
    rw [L116_Mo_validModule.eq_2, if_neg (by omega)]
    simp only [jp_ite]
    simp only [jp, vl_ite, if_pos (show (0 : Int) ≤ t ∧ (t : Int) < 20 by omega), Int.toNat_natCast, if_pos (show R32 ((t : Int) + 1) by omega)]
    show Vr T2 _ (decide (W6.initialTypes t = W6.globalTypes t) && allB _ j (t + 1)) _
    by_cases c : W6.initialTypes t = W6.globalTypes t
    · rw [if_pos (by rw [← k1, ← k3]; exact c.symm), decide_eq_true c, Bool.true_and]
      exact ih (t + 1) n1 (by omega) (by omega)
    · rw [if_neg (by rw [← k1, ← k3]; exact fun q => c q.symm), decide_eq_false c, Bool.false_and]
      exact Or.inr ⟨rfl, _, rfl, rfl⟩
/-! names -/
abbrev nmB (f : Nat → Int32) (M7 : KM7) (y x : Nat) : Bool := decide (M7.nameLength y = M7.nameLength x) && allB (fun i => decide ((f ((M7.nameAt y).toNat + i)).toInt = (f ((M7.nameAt x).toNat + i)).toInt)) (M7.nameLength x).toNat 0
set_option maxRecDepth 20000 in
theorem nl_c {T x y : Nat} {l : Nat} (hE : ERel f T Ex M7) (hT : T ≤ 40) (hx : x < T) (hy : y < T) (hl : M7.nameLength y = l) (hxl : M7.nameLength x = l) : ∀ (j k n1 : Nat), k + j = l → j < n1 → L16_Ex_isNamedN fu Ex x ((y : Int) * 30) l n1 k = .ret (allB (fun i => decide ((f ((M7.nameAt y).toNat + i)).toInt = (f ((M7.nameAt x).toNat + i)).toInt)) j k) := by
  obtain ⟨a1, a2, a3, a4, a5, a6, a7, a8, _⟩ := hE x hx
  obtain ⟨b1, b2, b3, b4, b5, b6, b7, b8, _⟩ := hE y hy
  intro j
  induction j with
  | zero =>
    intro k n1 hk hn
    obtain ⟨n1, rfl⟩ : ∃ q, n1 = q + 1 := ⟨n1 - 1, by omega⟩
    rw [L16_Ex_isNamedN.eq_2, if_pos (by omega)]; rfl
  | succ j ih =>
    intro k n1 hk hn
    obtain ⟨n1, rfl⟩ : ∃ q, n1 = q + 1 := ⟨n1 - 1, by omega⟩
    rw [L16_Ex_isNamedN.eq_2, if_neg (by omega), if_pos (show R32 ((x : Int) * 30) by omega), if_pos (show R32 ((x : Int) * 30 + k) by omega), if_pos (by omega), if_pos (show R32 ((y : Int) * 30 + k) by omega), if_pos (by omega), show ((x : Int) * 30 + k).toNat = x * 30 + k by omega, show ((y : Int) * 30 + k).toNat = y * 30 + k by omega, a8 k (by omega), b8 k (by omega)]
    show _ = Out.ret (decide ((f ((M7.nameAt y).toNat + k)).toInt = (f ((M7.nameAt x).toNat + k)).toInt) && allB _ j (k + 1))
    by_cases c : (f ((M7.nameAt y).toNat + k)).toInt = (f ((M7.nameAt x).toNat + k)).toInt
    · rw [if_pos c.symm, if_pos (show R32 ((k : Int) + 1) by omega), decide_eq_true c, Bool.true_and]
      exact ih (k + 1) n1 (by omega) (by omega)
    · rw [if_neg (fun q => c q.symm), decide_eq_false c, Bool.false_and]
set_option maxRecDepth 20000 in
theorem nm_c {T x y : Nat} (hfu : 40 < fu) (hE : ERel f T Ex M7) (hT : T ≤ 40) (hx : x < T) (hy : y < T) : f_Ex_isNamedN fu Ex x ((y : Int) * 30) (Ex.nameLengths y) = .ret (nmB f M7 y x) := by
  obtain ⟨a1, a2, a3, a4, a5, a6, a7, a8, _⟩ := hE x hx
  obtain ⟨b1, b2, b3, b4, b5, b6, b7, b8, _⟩ := hE y hy
  unfold f_Ex_isNamedN
  rw [if_pos (by omega), Int.toNat_natCast, a3, b3]
  by_cases c : M7.nameLength x = M7.nameLength y
  · obtain ⟨l, hl⟩ := Int.eq_ofNat_of_zero_le b4
    have hxl : M7.nameLength x = l := c.trans hl
    have k := nl_c (fu := fu) hE hT hx hy hl hxl l 0 fu (by omega) (by omega)
    rw [show ((0 : Nat) : Int) = 0 from rfl] at k
    rw [if_pos c, hl, k]
    show _ = Out.ret (decide (M7.nameLength y = M7.nameLength x) && _)
    rw [decide_eq_true c.symm, Bool.true_and, hxl, Int.toNat_natCast]
  · rw [if_neg c]
    show _ = Out.ret (decide (M7.nameLength y = M7.nameLength x) && _)
    rw [decide_eq_false (fun q => c q.symm), Bool.false_and]
set_option maxRecDepth 20000 in
theorem nl_r {T x y : Nat} {l : Nat} (hE : ERel f T Ex M7) (hT : T ≤ 40) (hx : x < T) (hy : y < T) (hl : M7.nameLength y = l) (hxl : M7.nameLength x = l) : ∀ (j k n1 : Nat), k + j = l → j < n1 → L19_Mo_sameNameN fu (KMt.mk f n) M7 y (M7.nameAt x) l n1 k = .ret (allB (fun i => decide ((f ((M7.nameAt y).toNat + i)).toInt = (f ((M7.nameAt x).toNat + i)).toInt)) j k) := by
  obtain ⟨a1, a2, a3, a4, a5, a6, a7, a8, _⟩ := hE x hx
  obtain ⟨b1, b2, b3, b4, b5, b6, b7, b8, _⟩ := hE y hy
  intro j
  induction j with
  | zero =>
    intro k n1 hk hn
    obtain ⟨n1, rfl⟩ : ∃ q, n1 = q + 1 := ⟨n1 - 1, by omega⟩
    rw [L19_Mo_sameNameN.eq_2, if_pos (by omega)]; rfl
  | succ j ih =>
    intro k n1 hk hn
    obtain ⟨n1, rfl⟩ : ∃ q, n1 = q + 1 := ⟨n1 - 1, by omega⟩
    rw [L19_Mo_sameNameN.eq_2, if_neg (by omega), if_pos (by omega), Int.toNat_natCast, if_pos (show R32 (M7.nameAt y + k) by omega), if_pos (by omega), if_pos (show R32 (M7.nameAt x + k) by omega), if_pos (by omega), show (M7.nameAt y + k).toNat = (M7.nameAt y).toNat + k by omega, show (M7.nameAt x + k).toNat = (M7.nameAt x).toNat + k by omega]
    show _ = Out.ret (decide ((f ((M7.nameAt y).toNat + k)).toInt = (f ((M7.nameAt x).toNat + k)).toInt) && allB _ j (k + 1))
    by_cases c : (f ((M7.nameAt y).toNat + k)).toInt = (f ((M7.nameAt x).toNat + k)).toInt
    · rw [if_pos c, if_pos (show R32 ((k : Int) + 1) by omega), decide_eq_true c, Bool.true_and]
      exact ih (k + 1) n1 (by omega) (by omega)
    · rw [if_neg c, decide_eq_false c, Bool.false_and]
set_option maxRecDepth 20000 in
theorem nmr_r {T x y : Nat} (hfu : 40 < fu) (hE : ERel f T Ex M7) (hT : T ≤ 40) (hx : x < T) (hy : y < T) : f_Mo_sameNameN fu (KMt.mk f n) M7 y (M7.nameAt x) (M7.nameLength x) = .ret (nmB f M7 y x) := by
  obtain ⟨a1, a2, a3, a4, a5, a6, a7, a8, _⟩ := hE x hx
  obtain ⟨b1, b2, b3, b4, b5, b6, b7, b8, _⟩ := hE y hy
  unfold f_Mo_sameNameN
  rw [if_pos (by omega), Int.toNat_natCast]
  by_cases c : M7.nameLength y = M7.nameLength x
  · obtain ⟨l, hl⟩ := Int.eq_ofNat_of_zero_le a4
    have k := nl_r (fu := fu) (n := n) hE hT hx hy (c.trans hl) hl l 0 fu (by omega) (by omega)
    rw [show ((0 : Nat) : Int) = 0 from rfl] at k
    rw [if_pos c, hl, k]
    show _ = Out.ret (decide (M7.nameLength y = M7.nameLength x) && _)
    rw [decide_eq_true c, Bool.true_and, hl, Int.toNat_natCast]
  · rw [if_neg c]
    show _ = Out.ret (decide (M7.nameLength y = M7.nameLength x) && _)
    rw [decide_eq_false c, Bool.false_and]
/-- names of x and of all before it -/
abbrev nmX (f : Nat → Int32) (M7 : KM7) (x : Nat) : Bool := allB (fun y => !nmB f M7 y x) x 0
set_option maxRecDepth 20000 in
theorem dn_c {T x : Nat} (hfu : 40 < fu) (hE : ERel f T Ex M7) (hT : T ≤ 40) (hx : x < T) : ∀ (j y n1 : Nat), y + j = x → j < n1 → L12_Ex_haveDifferentNames fu Ex x n1 y = .ret (if allB (fun y => !nmB f M7 y x) j y = true then .inr (x : Int) else .inl false) := by
  intro j
  induction j with
  | zero =>
    intro y n1 hy hn
    obtain ⟨n1, rfl⟩ : ∃ q, n1 = q + 1 := ⟨n1 - 1, by omega⟩
    have : y = x := by omega
    subst this
    rw [L12_Ex_haveDifferentNames.eq_2, if_pos (by omega)]; rfl
  | succ j ih =>
    intro y n1 hy hn
    obtain ⟨n1, rfl⟩ : ∃ q, n1 = q + 1 := ⟨n1 - 1, by omega⟩
    rw [L12_Ex_haveDifferentNames.eq_2, if_neg (by omega), if_pos (show R32 ((y : Int) * 30) by omega), if_pos (by omega), Int.toNat_natCast, nm_c hfu hE hT hx (by omega), obind_ret]
    show _ = Out.ret (if ((!nmB f M7 y x) && allB _ j (y + 1)) = true then _ else _)
    by_cases c : nmB f M7 y x = true
    · rw [if_pos c, c]; rfl
    · rw [if_neg c, if_pos (show R32 ((y : Int) + 1) by omega), Bool.eq_false_iff.mpr c]
      show _ = Out.ret (if (true && allB _ j (y + 1)) = true then _ else _)
      rw [Bool.true_and]
      exact ih (y + 1) n1 (by omega) (by omega)
set_option maxRecDepth 20000 in
theorem dx_c {T : Nat} (hfu : 40 < fu) (hE : ERel f T Ex M7) (hsz : Ex.size = T) (hT : T ≤ 40) : ∀ (j x n1 : Nat), x + j = T → j < n1 → L2_Ex_haveDifferentNames fu Ex n1 x = .ret (allB (nmX f M7) j x) := by
  intro j
  induction j with
  | zero =>
    intro x n1 hx hn
    obtain ⟨n1, rfl⟩ : ∃ q, n1 = q + 1 := ⟨n1 - 1, by omega⟩
    rw [L2_Ex_haveDifferentNames.eq_2, if_pos (by omega)]; rfl
  | succ j ih =>
    intro x n1 hx hn
    obtain ⟨n1, rfl⟩ : ∃ q, n1 = q + 1 := ⟨n1 - 1, by omega⟩
    rw [L2_Ex_haveDifferentNames.eq_2, if_neg (by omega)]
    have k := dn_c (fu := fu) hfu hE hT (show x < T by omega) x 0 fu (by omega) (by omega)
    rw [show ((0 : Nat) : Int) = 0 from rfl] at k
    rw [k]
    show _ = Out.ret (nmX f M7 x && allB _ j (x + 1))
    by_cases c : nmX f M7 x = true
    · rw [if_pos c, c, Bool.true_and, obS_r, if_pos (show R32 ((x : Int) + 1) by omega)]
      exact ih (x + 1) n1 (by omega) (by omega)
    · rw [if_neg c, Bool.eq_false_iff.mpr c, Bool.false_and, obS_l]
set_option maxRecDepth 20000 in
theorem dn_r {T x : Nat} (hfu : 40 < fu) (hE : ERel f T Ex M7) (hT : T ≤ 40) (hx : x < T) : ∀ (j y n1 : Nat), y + j = x → j < n1 → Vr T2 (L253_Mo_validModule fu mc z vo vf (KMt.mk f n) M7 x n1 r y) (allB (fun y => !nmB f M7 y x) j y) (r, (x : Int)) := by
  intro j
  induction j with
  | zero =>
    intro y n1 hy hn
    obtain ⟨n1, rfl⟩ : ∃ q, n1 = q + 1 := ⟨n1 - 1, by omega⟩
    have : y = x := by omega
    subst this
    rw [L253_Mo_validModule.eq_2, if_pos (by omega)]; exact Or.inl ⟨rfl, rfl⟩
  | succ j ih =>
    intro y n1 hy hn
    obtain ⟨n1, rfl⟩ : ∃ q, n1 = q + 1 := ⟨n1 - 1, by omega⟩
    rw [L253_Mo_validModule.eq_2, if_neg (by omega), if_pos (by omega), if_pos (by omega), Int.toNat_natCast, nmr_r hfu hE hT hx (by omega), obind_ret]
    simp only [jp_ite]
    simp only [jp, vl_ite', if_pos (show R32 ((y : Int) + 1) by omega)]
    show Vr T2 _ ((!nmB f M7 y x) && allB _ j (y + 1)) _
    by_cases c : nmB f M7 y x = true
    · rw [if_pos c, c]
      exact Or.inr ⟨rfl, _, rfl, rfl⟩
    · rw [if_neg c, Bool.eq_false_iff.mpr c]
      show Vr T2 _ (true && allB _ j (y + 1)) _
      rw [Bool.true_and]
      exact ih (y + 1) n1 (by omega) (by omega)
end MDV

/-! VALID: exports, functions in a row, a whole module -/
set_option maxRecDepth 20000 in
theorem allB_and {p q : Nat → Bool} : ∀ (j t : Nat), allB (fun k => p k && q k) j t = (allB p j t && allB q j t) := by
  intro j
  induction j with
  | zero => intro t; rfl
  | succ j ih =>
    intro t
    show ((p t && q t) && allB (fun k => p k && q k) j (t + 1)) = ((p t && allB p j (t + 1)) && (q t && allB q j (t + 1)))
    rw [ih]
    cases p t <;> cases q t <;> cases allB p j (t + 1) <;> rfl
section MDW
variable {fu : Nat} {f : Nat → Int32} {r n : Int} {mc : KMc} {z : KVt} {vo : KVo} {vf : KVf} {C : KCo} {M : KMe} {W1 : KW1} {W3 : KW3} {Wj : KWj} {W5 : KW5} {W6 : KW6} {Ex : KEx} {M1 : KM1} {Mp : KMp} {M3 : KM3} {Mj : KMj} {Ml : KMl} {M5 : KM5} {M6 : KM6} {M7 : KM7}
abbrev hmB (W3 : KW3) (W5 : KW5) (W6 : KW6) (k : Int) : Int := if k = 0 then W3.functionCount else if k = 3 then W6.globalCount else b2z W5.hasMemory
set_option maxRecDepth 20000 in
theorem hm_c {k : Int} : f_Va_howMany W3 W5 W6 k = .ret (hmB W3 W5 W6 k) := by
  unfold f_Va_howMany
  show _ = Out.ret (if k = 0 then W3.functionCount else if k = 3 then W6.globalCount else b2z W5.hasMemory)
  by_cases c : k = 0
  · rw [if_pos c, if_pos c]
  rw [if_neg c, if_neg c]
  by_cases c3 : k = 3
  · rw [if_pos c3, if_pos c3]
  rw [if_neg c3, if_neg c3]
  simp only [jp]
  cases h : W5.hasMemory with
  | true => rw [if_pos rfl]
  | false => rw [if_neg Bool.false_ne_true]
abbrev ixB (Ex : KEx) (W3 : KW3) (W5 : KW5) (W6 : KW6) (x : Nat) : Bool := decide (Ex.indices x < hmB W3 W5 W6 (Ex.kinds x))
set_option maxRecDepth 20000 in
theorem ex_c {T : Nat} (hfu : 40 < fu) (hE : ERel f T Ex M7) (hsz : Ex.size = T) (hT : T ≤ 40) : ∀ (j x n1 : Nat), x + j = T → j < n1 → L7_Va_acceptsExports fu Ex W3 W5 W6 n1 x = .ret (allB (ixB Ex W3 W5 W6) j x && allB (nmX f M7) T 0) := by
  intro j
  induction j with
  | zero =>
    intro x n1 hx hn
    obtain ⟨n1, rfl⟩ : ∃ q, n1 = q + 1 := ⟨n1 - 1, by omega⟩
    have k := dx_c (fu := fu) hfu hE hsz hT T 0 fu (by omega) (by omega)
    rw [show ((0 : Nat) : Int) = 0 from rfl] at k
    rw [L7_Va_acceptsExports.eq_2, if_pos (by omega)]
    unfold f_Ex_haveDifferentNames
    rw [k]; rfl
  | succ j ih =>
    intro x n1 hx hn
    obtain ⟨n1, rfl⟩ : ∃ q, n1 = q + 1 := ⟨n1 - 1, by omega⟩
    rw [L7_Va_acceptsExports.eq_2, if_neg (by omega), if_pos (by omega), if_pos (by omega), hm_c, obind_ret, Int.toNat_natCast]
    show _ = Out.ret ((decide (Ex.indices x < hmB W3 W5 W6 (Ex.kinds x)) && allB _ j (x + 1)) && _)
    by_cases c : Ex.indices x < hmB W3 W5 W6 (Ex.kinds x)
    · rw [if_pos c, if_pos (show R32 ((x : Int) + 1) by omega), decide_eq_true c, Bool.true_and]
      exact ih (x + 1) n1 (by omega) (by omega)
    · rw [if_neg c, decide_eq_false c, Bool.false_and, Bool.false_and]
set_option maxRecDepth 20000 in
theorem ex_r {T : Nat} (hfu : 40 < fu) (hE : ERel f T Ex M7) (he : M7.exports = T) (hT : T ≤ 40) (h3 : W3.functionCount = M3.functions) (h30 : 0 ≤ M3.functions) (h31 : M3.functions ≤ 30) (h6 : W6.globalCount = M6.globals) (h60 : 0 ≤ M6.globals) (h61 : M6.globals ≤ 20) (h5 : M5.memories = b2z W5.hasMemory) : ∀ (j x n1 : Nat), x + j = T → j < n1 → Vr T2 (L165_Mo_validModule fu mc z vo vf (KMt.mk f n) M3 M5 M6 M7 n1 r x) (allB (fun x => ixB Ex W3 W5 W6 x && nmX f M7 x) j x) (r, (T : Int)) := by
  have hb : 0 ≤ b2z W5.hasMemory ∧ b2z W5.hasMemory ≤ 1 := by cases W5.hasMemory <;> decide
  intro j
  induction j with
  | zero =>
    intro x n1 hx hn
    obtain ⟨n1, rfl⟩ : ∃ q, n1 = q + 1 := ⟨n1 - 1, by omega⟩
    have : x = T := by omega
    subst this
    rw [L165_Mo_validModule.eq_2, if_pos (by omega)]; exact Or.inl ⟨rfl, rfl⟩
  | succ j ih =>
    intro x n1 hx hn
    obtain ⟨n1, rfl⟩ : ∃ q, n1 = q + 1 := ⟨n1 - 1, by omega⟩
    obtain ⟨a1, a2, a3, a4, a5, a6, a7, a8, a9, a10, a11⟩ := hE x (by omega)
    have key : ∀ cnt : Int, R32 cnt → hmB W3 W5 W6 (Ex.kinds x) = cnt → Vr T2 (if ((iI cnt).toInt64).toInt ≤ (M7.exportOf x).toInt then Out.thr (2, mc, z, vo, vf) else obind2 (L253_Mo_validModule fu mc z vo vf (KMt.mk f n) M7 x fu r 0) (fun y => L165_Mo_validModule fu mc z vo vf (KMt.mk f n) M3 M5 M6 M7 n1 y.1 ((x : Int) + 1)) (fun t9 => .thr t9)) (allB (fun x => ixB Ex W3 W5 W6 x && nmX f M7 x) (j + 1) x) (r, (T : Int)) := by
      intro cnt hc hh
      have e1 : (M7.exportOf x).toInt = Ex.indices x := by rw [a11, Int32.toInt_toInt64, iI_t (by omega)]
      have e2 : ((iI cnt).toInt64).toInt = cnt := by rw [Int32.toInt_toInt64, iI_t hc]
      show Vr T2 _ ((decide (Ex.indices x < hmB W3 W5 W6 (Ex.kinds x)) && nmX f M7 x) && allB _ j (x + 1)) _
      rw [hh]
      by_cases c : Ex.indices x < cnt
      · rw [if_neg (show ¬ ((iI cnt).toInt64).toInt ≤ (M7.exportOf x).toInt by omega), decide_eq_true c, Bool.true_and]
        have k := dn_r (fu := fu) (n := n) (r := r) (mc := mc) (z := z) (vo := vo) (vf := vf) hfu hE hT (show x < T by omega) x 0 fu (by omega) (by omega)
        rw [show ((0 : Nat) : Int) = 0 from rfl] at k
        rcases k with ⟨b, e⟩ | ⟨b, t, e, q⟩
        · rw [show nmX f M7 x = true from b, Bool.true_and, e, obind2_ret]
          exact ih (x + 1) n1 (by omega) (by omega)
        · rw [show nmX f M7 x = false from b, Bool.false_and, e, obind2_thr]
          exact Or.inr ⟨rfl, t, rfl, q⟩
      · rw [if_pos (show ((iI cnt).toInt64).toInt ≤ (M7.exportOf x).toInt by omega), decide_eq_false c]
        exact Or.inr ⟨rfl, _, rfl, rfl⟩
    rw [L165_Mo_validModule.eq_2, if_neg (by omega), if_pos (by omega), if_pos (by omega), Int.toNat_natCast]
    simp only [jp_ite]
    simp only [jp, vl_ite', if_pos (show (0 : Int) ≤ x ∧ (x : Int) < 40 by omega), if_pos (show R32 ((x : Int) + 1) by omega)]
    rcases a2 with q | q | q
    · rw [if_pos (show M7.exportKinds x = 0 by rw [← a1]; exact q)]
      exact key _ (by omega) (by rw [q]; exact h3)
    · rw [if_neg (show ¬ M7.exportKinds x = 0 by omega), if_pos (show M7.exportKinds x = 2 by omega)]
      exact key _ (by omega) (by rw [q]; exact h5.symm)
    · rw [if_neg (show ¬ M7.exportKinds x = 0 by omega), if_neg (show ¬ M7.exportKinds x = 2 by omega)]
      exact key _ (by omega) (by rw [q]; exact h6)
/-! functions in a row -/
set_option maxRecDepth 20000 in
theorem pd14 {lab : Nat → Int} {lc : Int} {s e k : Nat} {pos : Nat → Int} (hPD : PD f C.ops C.extras lab C.values lc s e pos) (h1 : s ≤ k) (h2 : k < e) (q : C.ops k = 14) : 0 ≤ C.extras k ∧ 0 ≤ (C.values k).toInt := by
  obtain ⟨nn, ll, q1, d1, d2, d3, d4, d5, d6⟩ := (hPD k h1 h2).2.2.2.2.2.2.2.1 q
  rw [d3, d4, Int32.toInt_toInt64, iI_t (by omega)]
  omega
/-- all that is known of a function of a good module -/
def FVd (f : Nat → Int32) (C : KCo) (M : KMe) (M1 : KM1) (Mp : KMp) (M3 : KM3) (Wj : KWj) (Mj : KMj) (Ml : KMl) (M5 : KM5) (M6 : KM6) (e : Nat) (l0 l1 : Int) (g : Nat) (ct : KCt) : Prop := ∃ (s : Nat) (pos : Nat → Int) (stk : Nat → List Nat) (Fs : Nat → SS), Wj.starts g = s ∧ s ≤ e ∧ e < 2000 ∧ (e : Int) < C.size ∧ pos s = Mj.codeAt g ∧ Mj.codeEnd g = pos e + 1 ∧ pos e + 1 ≤ 2000 ∧ 0 ≤ pos e ∧ PD f C.ops C.extras C.labels C.values C.labelCount s e pos ∧ SK C.ops C.ends C.elses s e stk ∧ stk e = [] ∧ ME C.ops C.ends C.elses s e pos stk M.endOf M.elseOf ∧ TB C.ops C.extras C.values l0 l1 s e ∧ C.ops e = 256 ∧ by8 (f (pos e).toNat) = 11 ∧ LOk Wj Mj Ml g ∧ VFn M1 Mp M3 Mj Ml M5 M6 g C stk s e Fs ct
set_option maxRecDepth 20000 in
theorem FVd.fr {e s' e' : Nat} {l0 l1 l0' l1' : Int} {g : Nat} {Ct ct : KCt} (h : FVd f C M M1 Mp M3 Wj Mj Ml M5 M6 e l0 l1 g Ct) (hF : CtFr C s' e' Ct ct) (hes : e ≤ s') (hT : TB C.ops C.extras C.values l0' l1' s' e') (hl : l1 ≤ l0') : FVd f C M M1 Mp M3 Wj Mj Ml M5 M6 e l0 l1 g ct := by
  obtain ⟨s, pos, stk, Fs, a1, a2, a3, a4, a5, a6, a7, a8, a9, a10, a11, a12, a13, a14, a15, a16, v1, v2, v3, v4⟩ := h
  refine ⟨s, pos, stk, Fs, a1, a2, a3, a4, a5, a6, a7, a8, a9, a10, a11, a12, a13, a14, a15, a16, v1, v2, v3, fun k h1 h2 => ?_⟩
  obtain ⟨w1, w2, w3⟩ := v4 k h1 h2
  obtain ⟨x1, x2⟩ := hF.1 k (by omega)
  refine ⟨fun q => by rw [x1]; exact w1 q, fun q => by rw [x2]; exact w2 q, fun q l hl2 => ?_⟩
  rw [hF.2 l (fun k' u1 u2 u3 u4 => ?_)]
  · exact w3 q l hl2
  · obtain ⟨p1, p2⟩ := pd14 a9 h1 h2 q
    have t1 := (a13.2 k h1 h2 q).2.1
    have t2 := (hT.2 k' u1 u2 u3).1
    have t3 := hl2.2
    have t4 := u4.1
    omega
set_option maxRecDepth 20000 in
theorem l36_false {n1 : Nat} {Ct : KCt} {bv : KBV} {bt : KBt} {bo : KBo} {x : Int} : L36_Va_accepts fu C W1 W3 Wj W5 W6 (n1 + 1) Ct bv bt bo false x = .ret (Ct, bv, bt, bo, false, x) := by
  rw [L36_Va_accepts.eq_2]
  by_cases c : W3.functionCount ≤ x
  · rw [if_pos c]
  · rw [if_neg c, if_neg Bool.false_ne_true]
set_option maxRecDepth 20000 in
theorem lf_valid {T : Nat} {a : Int} {ee : Nat → Nat} {l0 l1 : Nat → Int} (hfu : 2100 < fu) (hM : MOk W1 W3 M1 Mp M3) (h5 : R5 W5 M5) (h6 : R6 W6 M6) (hT3 : W3.functionCount = T) (hM3 : M3.functions = T) (hT : T ≤ 30) (hsz : C.size ≤ a) (hlc : C.labelCount ≤ a) (ha : a ≤ 2000)
    (hF : ∀ g, g < T → FnOk f C M Wj.starts Wj.localCounts Wj.locals Mj.codeAt Mj.codeEnd Mj.localCount Ml a (ee g) (l0 g) (l1 g) g) (hO : ∀ g g', g < g' → g' < T → (ee g : Int) < Wj.starts g' ∧ l1 g ≤ l0 g') :
    ∀ (j g : Nat) (Ct : KCt) (bv : KBV) (bt : KBt) (bo : KBo) (mc : KMc) (z : KVt) (vo : KVo) (vf : KVf) (n1 n2 : Nat), g + j = T → j + 1 < n1 → j < n2 → (∀ h, h < g → FVd f C M M1 Mp M3 Wj Mj Ml M5 M6 (ee h) (l0 h) (l1 h) h Ct) →
    (∃ (ct : KCt) (bv' : KBV) (bt' : KBt) (bo' : KBo) (mc' : KMc) (z' : KVt) (vo' : KVo) (vf' : KVf), L36_Va_accepts fu C W1 W3 Wj W5 W6 n1 Ct bv bt bo true g = .ret (ct, bv', bt', bo', true, (T : Int)) ∧ L314_Mo_validModule fu (KMt.mk f n) M1 Mp M3 Mj Ml M5 M6 n2 r mc z vo vf g = .ret (r, mc', z', vo', vf', (T : Int)) ∧ ∀ h, h < T → FVd f C M M1 Mp M3 Wj Mj Ml M5 M6 (ee h) (l0 h) (l1 h) h ct) ∨
    (∃ (ct : KCt) (bv' : KBV) (bt' : KBt) (bo' : KBo) (at' : Int) (t : KRf × KMc × KVt × KVo × KVf), L36_Va_accepts fu C W1 W3 Wj W5 W6 n1 Ct bv bt bo true g = .ret (ct, bv', bt', bo', false, at') ∧ L314_Mo_validModule fu (KMt.mk f n) M1 Mp M3 Mj Ml M5 M6 n2 r mc z vo vf g = .thr t ∧ t.1 = 2) := by
  intro j
  induction j with
  | zero =>
    intro g Ct bv bt bo mc z vo vf n1 n2 hg hn1 hn2 hh
    obtain ⟨n1, rfl⟩ : ∃ q, n1 = q + 1 := ⟨n1 - 1, by omega⟩
    obtain ⟨n2, rfl⟩ : ∃ q, n2 = q + 1 := ⟨n2 - 1, by omega⟩
    have : g = T := by omega
    subst this
    rw [L36_Va_accepts.eq_2, if_pos (by omega), L314_Mo_validModule.eq_2, if_pos (by omega)]
    exact Or.inl ⟨_, _, _, _, _, _, _, _, rfl, rfl, hh⟩
  | succ j ih =>
    intro g Ct bv bt bo mc z vo vf n1 n2 hg hn1 hn2 hh
    obtain ⟨n1, rfl⟩ : ∃ q, n1 = q + 1 := ⟨n1 - 1, by omega⟩
    obtain ⟨n2, rfl⟩ : ∃ q, n2 = q + 1 := ⟨n2 - 1, by omega⟩
    obtain ⟨s, k1, kt, kl, ⟨kb, pos, stk, b1, b2, b3, b4, b5, b6, b7, b8, b9⟩, k3, k4, k5, k6, k7, k8⟩ := hF g (by omega)
    have hTB : TB C.ops C.extras C.values 0 (max (l1 g) 0) s (ee g) := ⟨Int.le_max_right _ _, fun j h1 h2 h3 => ⟨(pd14 b2 h1 h2 h3).1, Int.le_trans (kt.2 j h1 h2 h3).2.1 (Int.le_max_left _ _), (kt.2 j h1 h2 h3).2.2⟩⟩
    have hLo : LOk Wj Mj Ml g := ⟨k4, k5, k6, k7⟩
    rw [L36_Va_accepts.eq_2, if_neg (by omega), if_pos rfl, L314_Mo_validModule.eq_2, if_neg (by omega)]
    rcases fn_valid (fu := fu) (r := r) (n := n) (Ct := Ct) (bv := bv) (bt := bt) (bo := bo) (z := z) (vo := vo) (vf := vf) (mc := mc) hfu hM (show (g : Int) < M3.functions by omega) hLo h5 h6 kb b1 k1 b9 b2 b3 b4 (by omega) (by omega) k3 b6 b7 b8 rfl (by omega) hTB (Int.le_refl _) with ⟨Fs, ct, bv', bt', bo', z', vo', vf', c', a1, a2, a3, a4⟩ | ⟨ct, bv', bt', bo', t, a1, a2, a3⟩
    · rw [a1, a2, obind_ret, obind2_ret, if_pos (show R32 ((g : Int) + 1) by omega), if_pos (show R32 ((g : Int) + 1) by omega)]
      dsimp only
      rw [show ((g : Int) + 1) = ((g + 1 : Nat) : Int) by omega]
      refine ih (g + 1) ct bv' bt' bo' c' z' vo' vf' n1 n2 (by omega) (by omega) (by omega) (fun h hlt => ?_)
      by_cases q : h = g
      · subst q
        exact ⟨s, pos, stk, Fs, k1, kb, by omega, k3, b1, b9, by omega, b8, b2, b3, b4, b5, kt, b6, b7, hLo, a3⟩
      · obtain ⟨o1, o2⟩ := hO h g (by omega) (by omega)
        exact (hh h (by omega)).fr a4 (by omega) kt o2
    · rw [a1, a2, obind_ret, obind2_thr, if_pos (show R32 ((g : Int) + 1) by omega)]
      dsimp only
      obtain ⟨n1, rfl⟩ : ∃ q, n1 = q + 1 := ⟨n1 - 1, by omega⟩
      rw [l36_false]
      exact Or.inr ⟨_, _, _, _, _, _, rfl, rfl, a3⟩
/-! a whole module -/
set_option maxRecDepth 20000 in
theorem vm_r (h : R5 W5 M5) : f_Mo_validModule fu r mc z vo vf (KMt.mk f n) M1 Mp M3 Mj Ml M5 M6 M7 = if memG W5 = true then obind2 (L67_Mo_validModule fu mc z vo vf M1 M3 fu r 0) (fun y_9 => obind2 (L116_Mo_validModule fu mc z vo vf M6 fu y_9.1 0) (fun y_14 => obind2 (L165_Mo_validModule fu mc z vo vf (KMt.mk f n) M3 M5 M6 M7 fu y_14.1 0) (fun y_19 => obind2 (L314_Mo_validModule fu (KMt.mk f n) M1 Mp M3 Mj Ml M5 M6 fu y_19.1 mc z vo vf 0) (fun y_24 => .ret (y_24.1, y_24.2.1, y_24.2.2.1, y_24.2.2.2.1, y_24.2.2.2.2.1)) (fun t9 => .thr t9)) (fun t9 => .thr t9)) (fun t9 => .thr t9)) (fun t9 => .thr t9) else .thr (2, mc, z, vo, vf) := by
  unfold f_Mo_validModule
  simp only [jp]
  have v1 : f_Mo_valid r true = .ret r := rfl
  have v2 : f_Mo_valid r false = .thr 2 := rfl
  rw [v1, v2, obind2_ret, obind2_thr]
  rcases h with ⟨q1, q2⟩ | ⟨x, y, hh, q1, q2, q3, q4⟩
  · rw [if_pos q2, if_pos (show memG W5 = true by rw [q1]; decide)]
  · subst q1 q2
    rw [if_neg (show ¬ (KM5.mk 1 x y hh).memories = 0 from (show ¬ (1 : Int) = 0 by decide))]
    show (if (2 : Int64).toInt < x.toInt then _ else if (65536 : Int64).toInt < y.toInt then _ else if y.toInt < x.toInt then _ else _) = if decide (x.toInt ≤ 2 ∧ y.toInt ≤ 65536 ∧ x.toInt ≤ y.toInt) = true then _ else _
    rw [show (2 : Int64).toInt = 2 by decide, show (65536 : Int64).toInt = 65536 by decide]
    by_cases c1 : 2 < x.toInt
    · rw [if_pos c1, if_neg (by rw [decide_eq_true_eq]; omega)]
    rw [if_neg c1]
    by_cases c2 : 65536 < y.toInt
    · rw [if_pos c2, if_neg (by rw [decide_eq_true_eq]; omega)]
    rw [if_neg c2]
    by_cases c3 : y.toInt < x.toInt
    · rw [if_pos c3, if_neg (by rw [decide_eq_true_eq]; omega)]
    · rw [if_neg c3, if_pos (by rw [decide_eq_true_eq]; omega)]
set_option maxRecDepth 20000 in
theorem md_valid {a : Int} {rd : KRd} {Ct : KCt} {bv : KBV} {bt : KBt} {bo : KBo} (hfu : 2100 < fu) (h1 : R1 W1 M1 Mp) (h3 : R3 W3 M3) (h5 : R5 W5 M5) (h6 : R6 W6 M6) (h7 : R7 f Ex M7) (h10 : R10 f a C M Wj Mj Ml rd) (ha : a ≤ 2000) (hfc : M3.functions = Mj.codes) :
    (∃ (ct : KCt) (bv' : KBV) (bt' : KBt) (bo' : KBo) (mc' : KMc) (z' : KVt) (vo' : KVo) (vf' : KVf) (ee : Nat → Nat) (l0 l1 : Nat → Int), f_Va_accepts fu C Ct Ex W1 W3 Wj W5 W6 bv bt bo = .ret (ct, bv', bt', bo', true) ∧ f_Mo_validModule fu r mc z vo vf (KMt.mk f n) M1 Mp M3 Mj Ml M5 M6 M7 = .ret (r, mc', z', vo', vf') ∧ MOk W1 W3 M1 Mp M3 ∧ memG W5 = true ∧ (∀ k : Nat, (k : Int) < M6.globals → M6.globalTypes k = M6.globalKinds k) ∧ (∀ x : Nat, (x : Int) < Ex.size → Ex.indices x < hmB W3 W5 W6 (Ex.kinds x)) ∧ ∀ h : Nat, (h : Int) < M3.functions → FVd f C M M1 Mp M3 Wj Mj Ml M5 M6 (ee h) (l0 h) (l1 h) h ct) ∨
    (∃ (ct : KCt) (bv' : KBV) (bt' : KBt) (bo' : KBo) (t : KRf × KMc × KVt × KVo × KVf), f_Va_accepts fu C Ct Ex W1 W3 Wj W5 W6 bv bt bo = .ret (ct, bv', bt', bo', false) ∧ f_Mo_validModule fu r mc z vo vf (KMt.mk f n) M1 Mp M3 Mj Ml M5 M6 M7 = .thr t ∧ t.1 = 2) := by
  obtain ⟨T1, p1, p2, p3, p4⟩ := h1
  obtain ⟨T3, q1, q2, q3, q4⟩ := h3
  obtain ⟨T7, s1, s2, s3, s4⟩ := h7
  obtain ⟨T, t1, t2, t3, t4, t5, t6, t7, ee, l0, l1, t8, t9⟩ := h10
  have hTT : T = T3 := by omega
  subst hTT
  have h6' := h6
  obtain ⟨T6, u1, u2, u3, u4⟩ := h6
  have hm5 : M5.memories = b2z W5.hasMemory := by
    rcases h5 with ⟨y1, y2⟩ | ⟨x, y, hh, y1, y2, y3, y4⟩
    · rw [y1, y2]; rfl
    · rw [y1, y2]; rfl
  -- what the class asks before the functions
  have fail : ∀ t : KRf × KMc × KVt × KVo × KVf, t.1 = 2 → f_Va_accepts fu C Ct Ex W1 W3 Wj W5 W6 bv bt bo = obind (L36_Va_accepts fu C W1 W3 Wj W5 W6 fu Ct bv bt bo false 0) (fun y_9 => .ret (y_9.1, y_9.2.1, y_9.2.2.1, y_9.2.2.2.1, y_9.2.2.2.2.1)) → f_Mo_validModule fu r mc z vo vf (KMt.mk f n) M1 Mp M3 Mj Ml M5 M6 M7 = .thr t → (∃ (ct : KCt) (bv' : KBV) (bt' : KBt) (bo' : KBo) (t : KRf × KMc × KVt × KVo × KVf), f_Va_accepts fu C Ct Ex W1 W3 Wj W5 W6 bv bt bo = .ret (ct, bv', bt', bo', false) ∧ f_Mo_validModule fu r mc z vo vf (KMt.mk f n) M1 Mp M3 Mj Ml M5 M6 M7 = .thr t ∧ t.1 = 2) := by
    intro t ht e1 e2
    obtain ⟨n1, hn1⟩ : ∃ q, fu = q + 1 := ⟨fu - 1, by omega⟩
    have e3 : L36_Va_accepts fu C W1 W3 Wj W5 W6 fu Ct bv bt bo false 0 = .ret (Ct, bv, bt, bo, false, 0) := by
      rw [show L36_Va_accepts fu C W1 W3 Wj W5 W6 fu = L36_Va_accepts fu C W1 W3 Wj W5 W6 (n1 + 1) by rw [← hn1]]
      exact l36_false
    rw [e3, obind_ret] at e1
    exact ⟨_, _, _, _, t, e1, e2, ht⟩
  have cf := vf_c (fu := fu) (W1 := W1) q2 p2 q1 T 0 fu (by omega) (by omega)
  have cg := vg_c (fu := fu) u2 u1 T6 0 fu (by omega) (by omega)
  have cx := ex_c (fu := fu) (W3 := W3) (W5 := W5) (W6 := W6) (by omega) s4 s2 s1 T7 0 fu (by omega) (by omega)
  have rf := vf_r (fu := fu) (r := r) (mc := mc) (z := z) (vo := vo) (vf := vf) q3 p3 q1 p1 q4 T 0 fu (by omega) (by omega)
  have rg := vg_r (fu := fu) (r := r) (mc := mc) (z := z) (vo := vo) (vf := vf) u3 u1 u4 T6 0 fu (by omega) (by omega)
  have rx := ex_r (fu := fu) (r := r) (n := n) (mc := mc) (z := z) (vo := vo) (vf := vf) (by omega) s4 s3 s1 (q2.trans q3.symm) (by omega) (by omega) (u2.trans u3.symm) (by omega) (by omega) hm5 T7 0 fu (by omega) (by omega)
  rw [allB_and] at rx
  rw [show ((0 : Nat) : Int) = 0 from rfl] at cf cg cx rf rg rx
  have ea : f_Va_accepts fu C Ct Ex W1 W3 Wj W5 W6 bv bt bo = obind (L36_Va_accepts fu C W1 W3 Wj W5 W6 fu Ct bv bt bo (allB (fun k => decide (W3.functionTypes k < T1)) T 0 && (memG W5 && (allB (fun k => decide (W6.initialTypes k = W6.globalTypes k)) T6 0 && (allB (ixB Ex W3 W5 W6) T7 0 && allB (nmX f M7) T7 0)))) 0) (fun y_9 => .ret (y_9.1, y_9.2.1, y_9.2.2.1, y_9.2.2.2.1, y_9.2.2.2.2.1)) := by
    unfold f_Va_accepts f_Va_acceptsFunctions f_Va_acceptsGlobals f_Va_acceptsExports
    rw [cf, cg, cx, vm_c]
    simp only [jp, obind_ret]
    generalize allB (fun k => decide (W3.functionTypes k < T1)) T 0 = B1
    generalize memG W5 = B2
    generalize allB (fun k => decide (W6.initialTypes k = W6.globalTypes k)) T6 0 = B3
    generalize (allB (ixB Ex W3 W5 W6) T7 0 && allB (nmX f M7) T7 0) = B4
    cases B1 <;> cases B2 <;> cases B3 <;> cases B4 <;> rfl
  have er := vm_r (fu := fu) (r := r) (n := n) (f := f) (mc := mc) (z := z) (vo := vo) (vf := vf) (M1 := M1) (Mp := Mp) (M3 := M3) (Mj := Mj) (Ml := Ml) (M6 := M6) (M7 := M7) h5
  by_cases c2 : memG W5 = true
  · rw [if_pos c2] at er
    rcases rf with ⟨d1, d2⟩ | ⟨d1, t, d2, d3⟩
    · rw [d2, obind2_ret] at er
      dsimp only at er
      rcases rg with ⟨d3, d4⟩ | ⟨d3, t, d4, d5⟩
      · rw [d4, obind2_ret] at er
        dsimp only at er
        rcases rx with ⟨d5, d6⟩ | ⟨d5, t, d6, d7⟩
        · rw [d6, obind2_ret] at er
          dsimp only at er
          rw [d1, c2, d3, d5] at ea
          have hM : MOk W1 W3 M1 Mp M3 := ⟨T1, T, p1, q1, p2, p3, p4, q2, q3, q4, fun g hg => of_decide_eq_true ((allB_iff T 0).mp d1 g (Nat.zero_le _) (by omega))⟩
          have d5' := (Bool.and_eq_true _ _ ▸ d5 : allB (ixB Ex W3 W5 W6) T7 0 = true ∧ allB (nmX f M7) T7 0 = true)
          rcases lf_valid (fu := fu) (r := r) (n := n) hfu hM h5 h6' q2 q3 q1 t5 t7 ha t8 t9 T 0 Ct bv bt bo mc z vo vf fu fu (by omega) (by omega) (by omega) (fun h hh => absurd hh (by omega)) with ⟨ct, bv', bt', bo', mc', z', vo', vf', e1, e2, e3⟩ | ⟨ct, bv', bt', bo', at', t, e1, e2, e3⟩
          · rw [show ((0 : Nat) : Int) = 0 from rfl] at e1 e2
            rw [e2, obind2_ret] at er
            rw [show (true && (true && (true && true))) = true from rfl, e1, obind_ret] at ea
            refine Or.inl ⟨ct, bv', bt', bo', mc', z', vo', vf', ee, l0, l1, ea, er, hM, c2, fun k hk => ?_, fun x hx => ?_, fun h hh => e3 h (by omega)⟩
            · have w1 := of_decide_eq_true ((allB_iff T6 0).mp d3 k (Nat.zero_le _) (by omega))
              obtain ⟨w2, w3, w4, _⟩ := u4 k (by omega)
              rw [← w2, ← w4]; exact w1.symm
            · exact of_decide_eq_true ((allB_iff T7 0).mp d5'.1 x (Nat.zero_le _) (by omega))
          · rw [show ((0 : Nat) : Int) = 0 from rfl] at e1 e2
            rw [e2, obind2_thr] at er
            rw [show (true && (true && (true && true))) = true from rfl, e1, obind_ret] at ea
            exact Or.inr ⟨_, _, _, _, t, ea, er, e3⟩
        · rw [d6, obind2_thr] at er
          rw [d1, c2, d3, d5] at ea
          exact Or.inr (fail t d7 ea er)
      · rw [d4, obind2_thr] at er
        rw [d1, c2, d3, Bool.false_and] at ea
        exact Or.inr (fail t d5 ea er)
    · rw [d2, obind2_thr] at er
      rw [d1, Bool.false_and] at ea
      exact Or.inr (fail t d3 ea er)
  · rw [if_neg c2] at er
    rw [Bool.eq_false_iff.mpr c2, Bool.false_and, Bool.and_false] at ea
    exact Or.inr (fail _ rfl ea er)
end MDW
