/-! FACES: a module's beginning -/
set_option maxRecDepth 20000 in
theorem nar_b (x : Int32) : vp_nar .byte x = x.toInt8.toInt32 := rfl
set_option maxRecDepth 20000 in
theorem BB_upd {g : Nat → Int32} (h : BB g) (k : Nat) (x : Int32) : BB (upd g k (vp_nar .byte x)) := fun q => by
  by_cases c : q = k
  · rw [show upd g k (vp_nar .byte x) q = vp_nar .byte x from if_pos c, nar_b, Int8.toInt8_toInt32]
  · rw [show upd g k (vp_nar .byte x) q = g q from if_neg c]; exact h q
section FCE
variable {fu : Nat}
set_option maxRecDepth 20000 in
theorem l21 {mi : KMi} {Lg : Int} {N : Nat} (hN : mi.taped = (N : Int)) (hN2 : N ≤ 2000) : ∀ (j k n1 : Nat) (g : Nat → Int32), k + j = N → j < n1 → ∃ g', L21_Mo_module fu mi n1 (KMt.mk g Lg) k = .ret (KMt.mk g' Lg, (N : Int)) ∧ (∀ q, q < k → g' q = g q) ∧ (∀ q, k ≤ q → q < N → g' q = vp_nar .byte (mi.tape q)) ∧ (BB g → BB g') := by
  intro j
  induction j with
  | zero =>
    intro k n1 g hk h1
    obtain ⟨n1, rfl⟩ : ∃ q, n1 = q + 1 := ⟨n1 - 1, by omega⟩
    have : k = N := by omega
    subst this
    exact ⟨g, by rw [L21_Mo_module.eq_2, if_pos (by omega)], fun _ _ => rfl, fun q h2 h3 => absurd h2 (by omega), id⟩
  | succ j ih =>
    intro k n1 g hk h1
    obtain ⟨n1, rfl⟩ : ∃ q, n1 = q + 1 := ⟨n1 - 1, by omega⟩
    obtain ⟨g', e1, e2, e3, e4⟩ := ih (k + 1) n1 (upd g k (vp_nar .byte (mi.tape k))) (by omega) (by omega)
    refine ⟨g', ?_, fun q h2 => ?_, fun q h2 h3 => ?_, fun hb => e4 (BB_upd hb k _)⟩
    · rw [L21_Mo_module.eq_2, if_neg (by omega), if_pos (by omega), if_pos (by omega), if_pos (by omega), Int.toNat_natCast, show (k : Int) + 1 = ((k + 1 : Nat) : Int) from rfl]
      exact e1
    · rw [e2 q (by omega), show upd g k (vp_nar .byte (mi.tape k)) q = g q from if_neg (by omega)]
    · by_cases c : q = k
      · rw [e2 q (by omega), c, show upd g k (vp_nar .byte (mi.tape k)) k = vp_nar .byte (mi.tape k) from if_pos rfl]
      · exact e3 q (by omega) h3
set_option maxRecDepth 20000 in
theorem l149 : ∀ (j k n1 : Nat) (m : KMy), k + j = 131072 → j < n1 → ∃ m' : KMy, L149_Mo_module fu n1 m k = .ret (m', 131072) ∧ (∀ q, q < k → m'.memory q = m.memory q) ∧ (∀ q, k ≤ q → q < 131072 → m'.memory q = 0) := by
  intro j
  induction j with
  | zero =>
    intro k n1 m hk h1
    obtain ⟨n1, rfl⟩ : ∃ q, n1 = q + 1 := ⟨n1 - 1, by omega⟩
    have : k = 131072 := by omega
    subst this
    exact ⟨m, by rw [L149_Mo_module.eq_2, if_pos (by omega)]; rfl, fun _ _ => rfl, fun q h2 h3 => absurd h2 (by omega)⟩
  | succ j ih =>
    intro k n1 m hk h1
    obtain ⟨n1, rfl⟩ : ∃ q, n1 = q + 1 := ⟨n1 - 1, by omega⟩
    obtain ⟨m', e1, e2, e3⟩ := ih (k + 1) n1 (KMy.mk (upd m.memory k (vp_nar .byte (iI 0)))) (by omega) (by omega)
    refine ⟨m', ?_, fun q h2 => ?_, fun q h2 h3 => ?_⟩
    · rw [L149_Mo_module.eq_2, if_neg (by omega), if_pos (by omega), if_pos (by omega), Int.toNat_natCast, show (k : Int) + 1 = ((k + 1 : Nat) : Int) from rfl]
      exact e1
    · rw [e2 q (by omega)]; exact if_neg (by omega)
    · by_cases c : q = k
      · rw [e2 q (by omega), c]
        show upd m.memory k (vp_nar .byte (iI 0)) k = 0
        rw [show upd m.memory k (vp_nar .byte (iI 0)) k = vp_nar .byte (iI 0) from if_pos rfl]
        decide
      · exact e3 q (by omega) h3
set_option maxRecDepth 20000 in
theorem l5f : ∀ (j k n1 : Nat) (m : KMb), k + j = 131072 → j < n1 → ∃ m' : KMb, L5_J_Arrays_fill fu (iI 0) n1 m k = .ret (m', 131072) ∧ (∀ q, q < k → m'.bytes q = m.bytes q) ∧ (∀ q, k ≤ q → q < 131072 → m'.bytes q = 0) := by
  intro j
  induction j with
  | zero =>
    intro k n1 m hk h1
    obtain ⟨n1, rfl⟩ : ∃ q, n1 = q + 1 := ⟨n1 - 1, by omega⟩
    have : k = 131072 := by omega
    subst this
    exact ⟨m, by rw [L5_J_Arrays_fill.eq_2, if_pos (by omega)]; rfl, fun _ _ => rfl, fun q h2 h3 => absurd h2 (by omega)⟩
  | succ j ih =>
    intro k n1 m hk h1
    obtain ⟨n1, rfl⟩ : ∃ q, n1 = q + 1 := ⟨n1 - 1, by omega⟩
    obtain ⟨m', e1, e2, e3⟩ := ih (k + 1) n1 (KMb.mk (upd m.bytes k (vp_nar .byte (iI 0)))) (by omega) (by omega)
    refine ⟨m', ?_, fun q h2 => ?_, fun q h2 h3 => ?_⟩
    · rw [L5_J_Arrays_fill.eq_2, if_neg (by omega), if_pos (by omega), if_pos (by omega), Int.toNat_natCast, show (k : Int) + 1 = ((k + 1 : Nat) : Int) from rfl]
      exact e1
    · rw [e2 q (by omega)]; exact if_neg (by omega)
    · by_cases c : q = k
      · rw [e2 q (by omega), c]
        show upd m.bytes k (vp_nar .byte (iI 0)) k = 0
        rw [show upd m.bytes k (vp_nar .byte (iI 0)) k = vp_nar .byte (iI 0) from if_pos rfl]
        decide
      · exact e3 q (by omega) h3
set_option maxRecDepth 20000 in
/-- the globals' first values, both -/
theorem l44 {W6 : KW6} {x6 : KRf × KMc × KMk × KM1 × KMp × KM3 × KMj × KMl × KM5 × KM6 × KM7 × KMe} {G : Nat} (hG : G ≤ 20) (h1 : W6.globalCount = G) (h2 : x6.2.2.2.2.2.2.2.2.2.1.globals = G) (hv : ∀ k, k < G → W6.initialValues k = x6.2.2.2.2.2.2.2.2.2.1.starts k) : ∀ (j k n1 n2 : Nat) (wt : Bool) (pa pr : Int) (gc gr : Nat → Int64), k + j = G → j < n1 → j < n2 → (∀ q, q < 20 → gc q = gr q) → ∃ gc' gr', L44_Ma_begin fu W6 n1 (KAg.mk wt pa gc) k = .ret (KAg.mk wt pa gc', (G : Int)) ∧ L173_Mo_module fu x6 n2 (KRg.mk pr gr) k = .ret (KRg.mk pr gr', (G : Int)) ∧ (∀ q, q < 20 → gc' q = gr' q) ∧ (∀ q, q < k → gr' q = gr q) ∧ (∀ q, k ≤ q → q < G → gr' q = x6.2.2.2.2.2.2.2.2.2.1.starts q) := by
  intro j
  induction j with
  | zero =>
    intro k n1 n2 wt pa pr gc gr hk n1h n2h he
    obtain ⟨n1, rfl⟩ : ∃ q, n1 = q + 1 := ⟨n1 - 1, by omega⟩
    obtain ⟨n2, rfl⟩ : ∃ q, n2 = q + 1 := ⟨n2 - 1, by omega⟩
    have : k = G := by omega
    subst this
    exact ⟨gc, gr, by rw [L44_Ma_begin.eq_2, if_pos (by omega)], by rw [L173_Mo_module.eq_2, if_pos (by omega)], he, fun _ _ => rfl, fun q h2 h3 => absurd h2 (by omega)⟩
  | succ j ih =>
    intro k n1 n2 wt pa pr gc gr hk n1h n2h he
    obtain ⟨n1, rfl⟩ : ∃ q, n1 = q + 1 := ⟨n1 - 1, by omega⟩
    obtain ⟨n2, rfl⟩ : ∃ q, n2 = q + 1 := ⟨n2 - 1, by omega⟩
    obtain ⟨gc', gr', e1, e2, e3, e4, e5⟩ := ih (k + 1) n1 n2 wt pa pr (vp_updL gc k (W6.initialValues k)) (vp_updL gr k (x6.2.2.2.2.2.2.2.2.2.1.starts k)) (by omega) (by omega) (by omega) (fun q hq => by
      by_cases c : q = k
      · rw [c, updL_s, updL_s]; exact hv k (by omega)
      · rw [updL_n c, updL_n c]; exact he q hq)
    refine ⟨gc', gr', ?_, ?_, e3, fun q h2 => ?_, fun q h2 h3 => ?_⟩
    · rw [L44_Ma_begin.eq_2, if_neg (by omega), if_pos (by omega), if_pos (by omega), if_pos (by omega), Int.toNat_natCast, show (k : Int) + 1 = ((k + 1 : Nat) : Int) from rfl]
      exact e1
    · rw [L173_Mo_module.eq_2, if_neg (by omega), if_pos (by omega), if_pos (by omega), if_pos (by omega), Int.toNat_natCast, show (k : Int) + 1 = ((k + 1 : Nat) : Int) from rfl]
      exact e2
    · rw [e4 q (by omega), updL_n (by omega)]
    · by_cases c : q = k
      · rw [e4 q (by omega), c, updL_s]
      · exact e5 q (by omega) h3
set_option maxRecDepth 20000 in
theorem begin_both {W5 : KW5} {W6 : KW6} {mb : KMb} {ag : KAg} {my : KMy} {rg : KRg} {x6 : KRf × KMc × KMk × KM1 × KMp × KM3 × KMj × KMl × KM5 × KM6 × KM7 × KMe} (hfu : 131100 < fu) (hz : ag.written = false → ∀ k, k < 131072 → mb.bytes k = 0) (hg : ∀ k, k < 20 → ag.globals k = rg.globals k) (h6 : R6 W6 x6.2.2.2.2.2.2.2.2.2.1) (h5 : R5 W5 x6.2.2.2.2.2.2.2.2.1) (hmem : memG W5 = true) (hty : ∀ k : Nat, (k : Int) < x6.2.2.2.2.2.2.2.2.2.1.globals → x6.2.2.2.2.2.2.2.2.2.1.globalTypes k = x6.2.2.2.2.2.2.2.2.2.1.globalKinds k) : ∃ (mb' : KMb) (ag' : KAg) (my' : KMy) (rg' : KRg) (e1 e2 : Int), f_Ma_begin fu W5 W6 mb ag = .ret (mb', ag') ∧ L149_Mo_module fu fu my 0 = .ret (my', e1) ∧ L173_Mo_module fu x6 fu (KRg.mk (if x6.2.2.2.2.2.2.2.2.1.memories ≤ 0 then 0 else x6.2.2.2.2.2.2.2.2.1.least.toInt32.toInt) rg.globals) 0 = .ret (rg', e2) ∧ MR x6.2.2.2.2.2.2.2.2.2.1 mb' ag' my' rg' := by
  obtain ⟨G, g1, g2, g3, g4⟩ := h6
  have hmem' := of_decide_eq_true hmem
  have hp : W5.pagesAtFirst.toInt32.toInt = (if x6.2.2.2.2.2.2.2.2.1.memories ≤ 0 then 0 else x6.2.2.2.2.2.2.2.2.1.least.toInt32.toInt) ∧ 0 ≤ W5.pagesAtFirst.toInt32.toInt ∧ W5.pagesAtFirst.toInt32.toInt ≤ 2 := by
    rcases h5 with ⟨q1, q2⟩ | ⟨x, y, hh, q1, q2, q3, q4⟩
    · rw [q2, if_pos (by decide), q1]
      exact ⟨by decide, by decide, by decide⟩
    · rw [q1] at hmem' ⊢
      rw [q2, if_neg (show ¬ (1 : Int) ≤ 0 by decide)]
      have k1 : x.toInt = (uL x : Int) := uL_toInt (by omega)
      have k2 : x.toInt ≤ 2 := hmem'.1
      have k3 : x.toInt32.toInt = x.toInt := v32 (by omega) (by omega)
      exact ⟨rfl, by show 0 ≤ x.toInt32.toInt; omega, by show x.toInt32.toInt ≤ 2; omega⟩
  have hfill : ∃ (mb' : KMb), (∀ k, k < 131072 → mb'.bytes k = 0) ∧ f_Ma_begin fu W5 W6 mb ag = obind (L44_Ma_begin fu W6 fu (KAg.mk false W5.pagesAtFirst.toInt32.toInt ag.globals) 0) (fun y => .ret (mb', y.1)) := by
    by_cases c : ag.written = true
    · obtain ⟨m', e1, _, e3⟩ := l5f (fu := fu) 131072 0 fu mb (by omega) (by omega)
      rw [show ((0 : Nat) : Int) = 0 from rfl] at e1
      refine ⟨m', fun k hk => e3 k (by omega) hk, ?_⟩
      unfold f_Ma_begin f_J_Arrays_fill
      simp only [jp]
      rw [if_pos c, e1, obind_ret, obind_ret]
    · have c' : ag.written = false := by cases h : ag.written with
        | false => rfl
        | true => exact absurd h c
      refine ⟨mb, hz c', ?_⟩
      unfold f_Ma_begin
      simp only [jp]
      rw [if_neg c]
      show obind (L44_Ma_begin fu W6 fu (KAg.mk ag.written W5.pagesAtFirst.toInt32.toInt ag.globals) 0) _ = _
      rw [c']
  obtain ⟨mb', z1, z2⟩ := hfill
  obtain ⟨my', y1, _, y3⟩ := l149 (fu := fu) 131072 0 fu my (by omega) (by omega)
  obtain ⟨gc', gr', k1, k2, k3, _, k5⟩ := l44 (fu := fu) (W6 := W6) (x6 := x6) g1 g2 g3 (fun k hk => (g4 k hk).2.2.2.1) G 0 fu fu false W5.pagesAtFirst.toInt32.toInt (if x6.2.2.2.2.2.2.2.2.1.memories ≤ 0 then 0 else x6.2.2.2.2.2.2.2.2.1.least.toInt32.toInt) ag.globals rg.globals (by omega) (by omega) (by omega) hg
  rw [show ((0 : Nat) : Int) = 0 from rfl] at y1 k1 k2
  refine ⟨mb', KAg.mk false W5.pagesAtFirst.toInt32.toInt gc', my', _, _, _, by rw [z2, k1, obind_ret], y1, k2, fun k hk => ?_, hp.1, by show 0 ≤ (if _ then _ else _ : Int); rw [← hp.1]; exact hp.2.1, by show (if _ then _ else _ : Int) ≤ 2; rw [← hp.1]; exact hp.2.2, k3, fun k hk ht => ?_, fun _ => z1⟩
  · rw [z1 k hk, y3 k (by omega) hk]
    exact ⟨rfl, by decide, by decide⟩
  · show R32 (gr' k).toInt
    rw [k5 k (by omega) (by omega)]
    exact (g4 k (by omega)).2.2.2.2.2.2 (by rw [← hty k hk]; exact ht)
end FCE
