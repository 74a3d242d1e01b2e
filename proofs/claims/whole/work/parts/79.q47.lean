/-! RUN: the two machines' frames -/
/-- of every function: its first and last instruction, their places, the open blocks, the types -/
abbrev SP : Type := (Nat → Nat) × (Nat → Nat) × (Nat → Nat → Int) × (Nat → Nat → List Nat) × (Nat → Nat → SS)
abbrev SP.s (X : SP) : Nat → Nat := X.1
abbrev SP.e (X : SP) : Nat → Nat := X.2.1
abbrev SP.p (X : SP) : Nat → Nat → Int := X.2.2.1
abbrev SP.k (X : SP) : Nat → Nat → List Nat := X.2.2.2.1
abbrev SP.F (X : SP) : Nat → Nat → SS := X.2.2.2.2
/-- how many parameters and locals -/
abbrev nv (M1 : KM1) (M3 : KM3) (Mj : KMj) (g : Nat) : Nat := (pcn M1 M3 g + Mj.localCount g).toNat
/-- parameters and locals as their types ask -/
def VV (M1 : KM1) (Mp : KMp) (M3 : KM3) (Mj : KMj) (Ml : KMl) (st : Nat → Int64) (b g : Nat) : Prop := ∀ k : Nat, locA M1 Mp M3 Mj Ml g k = some 127 → R32 (st (b + k)).toInt
set_option maxRecDepth 20000 in
theorem locA_lt {M1 : KM1} {Mp : KMp} {M3 : KM3} {Mj : KMj} {Ml : KMl} {g k : Nat} {t : Int} (h : locA M1 Mp M3 Mj Ml g k = some t) : k < nv M1 M3 Mj g := by
  unfold locA at h
  have := (ite_some h).1
  show k < (pcn M1 M3 g + Mj.localCount g).toNat
  omega
/-- the labels of one call -/
def LB (X : SP) (g base : Nat) (rl : KRl) (lt : Nat) (l : List Nat) : Prop := ∀ k o, l[k]? = some o → rl.labelAt (lt - 1 - k) = X.p g o ∧ rl.labelHeight (lt - 1 - k) = ((base + tot (X.F g (o + 1)) : Nat) : Int)
/-- calls that are under way, the innermost first: function, next instruction, base -/
def FI (X : SP) (M1 : KM1) (Mp : KMp) (M3 : KM3) (Mj : KMj) (Ml : KMl) (af : KAf) (rr : KRr) (rl : KRl) (st : Nat → Int64) : List (Nat × Nat × Nat) → Int → Nat → Nat → Prop
  | [], _, lt, h => lt = 0 ∧ h = 0
  | a :: R, pend, lt, h => (a.1 : Int) < M3.functions ∧ X.s a.1 ≤ a.2.1 ∧ a.2.1 ≤ X.e a.1 ∧ af.functions R.length = a.1 ∧ rr.frameFunction R.length = a.1 ∧ af.bases R.length = a.2.2 ∧ rr.frameBase R.length = a.2.2 ∧ (∀ c R', R = c :: R' → af.returns R.length = c.2.1 ∧ rr.frameReturn R.length = X.p c.1 c.2.1) ∧ VV M1 Mp M3 Mj Ml st a.2.2 a.1 ∧
    (∃ (x : Fr) (R0 : SS), X.F a.1 a.2.1 = pushA pend x :: R0 ∧ Live (x :: R0) ∧ h = a.2.2 + nv M1 M3 Mj a.1 + tot (x :: R0) ∧ VT st (a.2.2 + nv M1 M3 Mj a.1) (flat (x :: R0))) ∧
    ∃ lb : Nat, rr.frameLabels R.length = lb ∧ rl.labelAt lb = -1 ∧ lt = lb + 1 + (X.k a.1 a.2.1).length ∧ LB X a.1 (a.2.2 + nv M1 M3 Mj a.1) rl lt (X.k a.1 a.2.1) ∧ FI X M1 Mp M3 Mj Ml af rr rl st R (res M1 M3 a.1) lb a.2.2
section FIS
variable {X : SP} {M1 : KM1} {Mp : KMp} {M3 : KM3} {Mj : KMj} {Ml : KMl} {af af' : KAf} {rr rr' : KRr} {rl rl' : KRl} {st st' : Nat → Int64}
set_option maxRecDepth 20000 in
theorem VV.cg {b g : Nat} (h : VV M1 Mp M3 Mj Ml st b g) (hs : ∀ k, k < b + nv M1 M3 Mj g → st' k = st k) : VV M1 Mp M3 Mj Ml st' b g := fun k hk => by
  rw [hs (b + k) (by have := locA_lt hk; omega)]; exact h k hk
set_option maxRecDepth 20000 in
theorem LB.cg {g base lt : Nat} {l : List Nat} (h : LB X g base rl lt l) (hl : l.length < lt) (hs : ∀ k, k < lt → rl'.labelAt k = rl.labelAt k ∧ rl'.labelHeight k = rl.labelHeight k) : LB X g base rl' lt l := fun k o hk => by
  obtain ⟨h1, h2⟩ := h k o hk
  obtain ⟨h3, h4⟩ := hs (lt - 1 - k) (by omega)
  exact ⟨h3.trans h1, h4.trans h2⟩
set_option maxRecDepth 20000 in
theorem FI.cg : ∀ {L : List (Nat × Nat × Nat)} {pend : Int} {lt h : Nat}, FI X M1 Mp M3 Mj Ml af rr rl st L pend lt h → (∀ k, k < L.length → af'.functions k = af.functions k ∧ af'.bases k = af.bases k ∧ af'.returns k = af.returns k ∧ rr'.frameFunction k = rr.frameFunction k ∧ rr'.frameReturn k = rr.frameReturn k ∧ rr'.frameBase k = rr.frameBase k ∧ rr'.frameLabels k = rr.frameLabels k) → (∀ k, k < lt → rl'.labelAt k = rl.labelAt k ∧ rl'.labelHeight k = rl.labelHeight k) → (∀ k, k < h → st' k = st k) → FI X M1 Mp M3 Mj Ml af' rr' rl' st' L pend lt h
  | [], _, _, _, h, _, _, _ => h
  | a :: R, pend, lt, h, hF, h1, h2, h3 => by
    obtain ⟨a1, a2, a3, a4, a5, a6, a7, a8, a9, ⟨x, R0, b1, b2, b3, b4⟩, lb, c1, c2, c3, c4, c5⟩ := hF
    obtain ⟨k1, k2, k3, k4, k5, k6, k7⟩ := h1 R.length (by rw [List.length_cons]; omega)
    refine ⟨a1, a2, a3, k1.trans a4, k4.trans a5, k2.trans a6, k6.trans a7, fun c R' q => ?_, a9.cg (fun k hk => h3 k (by omega)), ⟨x, R0, b1, b2, b3, VT.cg _ (fun k hk _ => h3 k (by show k < h; rw [b3]; exact hk)) b4⟩, lb, k7.trans c1, (h2 lb (by omega)).1.trans c2, c3, c4.cg (by omega) h2, FI.cg c5 (fun k hk => h1 k (by rw [List.length_cons]; omega)) (fun k hk => h2 k (by omega)) (fun k hk => h3 k (by omega))⟩
    obtain ⟨q1, q2⟩ := a8 c R' q
    exact ⟨k3.trans q1, k5.trans q2⟩
set_option maxRecDepth 20000 in
/-- the innermost call goes on: other values, another instruction, the same open blocks -/
theorem FI.top {g i i' b lt h : Nat} {R : List (Nat × Nat × Nat)} {y : Fr} {R1 : SS} (e : X.F g i' = y :: R1) (hF : FI X M1 Mp M3 Mj Ml af rr rl st ((g, i, b) :: R) 0 lt h) (h1 : X.s g ≤ i') (h2 : i' ≤ X.e g) (hk : X.k g i' = X.k g i) (hL : Live (X.F g i')) (hs : ∀ k, k < b → st' k = st k) (hV : VV M1 Mp M3 Mj Ml st' b g) (hT : VT st' (b + nv M1 M3 Mj g) (flat (X.F g i'))) : FI X M1 Mp M3 Mj Ml af rr rl st' ((g, i', b) :: R) 0 lt (b + nv M1 M3 Mj g + tot (X.F g i')) := by
  obtain ⟨a1, a2, a3, a4, a5, a6, a7, a8, a9, ⟨x, R0, b1, b2, b3, b4⟩, lb, c1, c2, c3, c4, c5⟩ := hF
  dsimp only at *
  exact ⟨a1, h1, h2, a4, a5, a6, a7, a8, hV, ⟨y, R1, by show X.F g i' = pushA 0 y :: R1; rw [e]; rfl, by rw [← e]; exact hL, by rw [← e], by rw [← e]; exact hT⟩, lb, c1, c2, by show lt = lb + 1 + (X.k g i').length; rw [hk]; exact c3, by show LB X g _ rl lt (X.k g i'); rw [hk]; exact c4, FI.cg c5 (fun k _ => ⟨rfl, rfl, rfl, rfl, rfl, rfl, rfl⟩) (fun k _ => ⟨rfl, rfl⟩) hs⟩
set_option maxRecDepth 20000 in
/-- the innermost call's values -/
theorem FI.vals {g i b lt h : Nat} {R : List (Nat × Nat × Nat)} (hF : FI X M1 Mp M3 Mj Ml af rr rl st ((g, i, b) :: R) 0 lt h) : ∃ x R0, X.F g i = x :: R0 ∧ Live (X.F g i) ∧ h = b + nv M1 M3 Mj g + tot (X.F g i) ∧ VT st (b + nv M1 M3 Mj g) (flat (X.F g i)) := by
  obtain ⟨a1, a2, a3, a4, a5, a6, a7, a8, a9, ⟨x, R0, b1, b2, b3, b4⟩, _⟩ := hF
  have e : X.F g i = x :: R0 := b1
  exact ⟨x, R0, e, by rw [e]; exact b2, by rw [e]; exact b3, by rw [e]; exact b4⟩
set_option maxRecDepth 20000 in
/-- the innermost call goes on: some values taken -/
theorem FI.pop {g i i' b lt h : Nat} {R : List (Nat × Nat × Nat)} {x y : Fr} {R0 : SS} {l : List Int} (hF : FI X M1 Mp M3 Mj Ml af rr rl st ((g, i, b) :: R) 0 lt h) (e : X.F g i = x :: R0) (h1 : X.s g ≤ i') (h2 : i' ≤ X.e g) (hk : X.k g i' = X.k g i) (e' : X.F g i' = y :: R0) (hy : lv y) (hl : x.1 = l ++ y.1) : FI X M1 Mp M3 Mj Ml af rr rl st ((g, i', b) :: R) 0 lt (h - l.length) := by
  obtain ⟨x', R', q1, q2, q3, q4⟩ := hF.vals
  rw [e] at q1 q2 q3 q4
  have hfl : flat (x :: R0) = l ++ flat (y :: R0) := by show x.1 ++ flat R0 = l ++ (y.1 ++ flat R0); rw [hl, List.append_assoc]
  have ht : tot (x :: R0) = l.length + tot (y :: R0) := by show (flat (x :: R0)).length = _; rw [hfl, List.length_append]; rfl
  have hh : h - l.length = b + nv M1 M3 Mj g + tot (X.F g i') := by rw [e']; omega
  rw [hh]
  refine FI.top e' hF h1 h2 hk (by rw [e']; exact Live.cons.mpr ⟨hy, (Live.cons.mp q2).2⟩) (fun _ _ => rfl) hF.2.2.2.2.2.2.2.2.1 ?_
  rw [e']
  rw [hfl] at q4
  exact VT.app l _ q4
set_option maxRecDepth 20000 in
/-- the innermost call goes on: some values taken, one put -/
theorem FI.pp {g i i' b lt h : Nat} {R : List (Nat × Nat × Nat)} {x y : Fr} {R0 : SS} {l r : List Int} {t : Int} {v : Int64} (hF : FI X M1 Mp M3 Mj Ml af rr rl st ((g, i, b) :: R) 0 lt h) (e : X.F g i = x :: R0) (h1 : X.s g ≤ i') (h2 : i' ≤ X.e g) (hk : X.k g i' = X.k g i) (e' : X.F g i' = y :: R0) (hy : lv y) (hl : x.1 = l ++ r) (hr : y.1 = t :: r) (hv : t = 127 → R32 v.toInt) : FI X M1 Mp M3 Mj Ml af rr rl (vp_updL st (h - l.length) v) ((g, i', b) :: R) 0 lt (h - l.length + 1) := by
  obtain ⟨x', R', q1, q2, q3, q4⟩ := hF.vals
  rw [e] at q1 q2 q3 q4
  have hfl : flat (x :: R0) = l ++ (r ++ flat R0) := by show x.1 ++ flat R0 = _; rw [hl, List.append_assoc]
  have ht : tot (x :: R0) = l.length + (r ++ flat R0).length := by show (flat (x :: R0)).length = _; rw [hfl, List.length_append]
  have hf' : flat (y :: R0) = t :: (r ++ flat R0) := by show y.1 ++ flat R0 = _; rw [hr, List.cons_append]
  have ht' : tot (y :: R0) = (r ++ flat R0).length + 1 := by show (flat (y :: R0)).length = _; rw [hf', List.length_cons]
  have hh : h - l.length + 1 = b + nv M1 M3 Mj g + tot (X.F g i') := by rw [e']; omega
  have hp : h - l.length = b + nv M1 M3 Mj g + (r ++ flat R0).length := by omega
  rw [hh]
  refine FI.top e' hF h1 h2 hk (by rw [e']; exact Live.cons.mpr ⟨hy, (Live.cons.mp q2).2⟩) (fun k hk => updL_n (by omega)) (VV.cg hF.2.2.2.2.2.2.2.2.1 (fun k hk => updL_n (by omega))) ?_
  rw [e', hf', hp]
  rw [hfl] at q4
  exact VT.push (VT.app l _ q4) hv
end FIS
/-- all that is known of a good function, for both machines -/
def GF (f : Nat → Int32) (n : Int) (C : KCo) (M : KMe) (M1 : KM1) (Mp : KMp) (M3 : KM3) (Wj : KWj) (Mj : KMj) (Ml : KMl) (M5 : KM5) (M6 : KM6) (ct : KCt) (X : SP) (g : Nat) : Prop := Wj.starts g = X.s g ∧ X.s g ≤ X.e g ∧ X.e g < 2000 ∧ (X.e g : Int) < C.size ∧ X.p g (X.s g) = Mj.codeAt g ∧ X.p g (X.e g) + 1 ≤ n ∧ 0 ≤ X.p g (X.e g) ∧ PD f C.ops C.extras C.labels C.values C.labelCount (X.s g) (X.e g) (X.p g) ∧ SK C.ops C.ends C.elses (X.s g) (X.e g) (X.k g) ∧ X.k g (X.e g) = [] ∧ ME C.ops C.ends C.elses (X.s g) (X.e g) (X.p g) (X.k g) M.endOf M.elseOf ∧ C.ops (X.e g) = 256 ∧ by8 (f (X.p g (X.e g)).toNat) = 11 ∧ LOk Wj Mj Ml g ∧ VFn M1 Mp M3 Mj Ml M5 M6 g C (X.k g) (X.s g) (X.e g) (X.F g) ct
set_option maxRecDepth 20000 in
theorem gf_all {f : Nat → Int32} {n : Int} {C : KCo} {M : KMe} {M1 : KM1} {Mp : KMp} {M3 : KM3} {Wj : KWj} {Mj : KMj} {Ml : KMl} {M5 : KM5} {M6 : KM6} {ct : KCt} {T : Int} {ee : Nat → Nat} {l0 l1 : Nat → Int} (h : ∀ g : Nat, (g : Int) < T → FVd f C M M1 Mp M3 Wj Mj Ml M5 M6 (ee g) (l0 g) (l1 g) g ct) (hn : ∀ g : Nat, (g : Int) < T → Mj.codeEnd g ≤ n) : ∃ X : SP, ∀ g : Nat, (g : Int) < T → GF f n C M M1 Mp M3 Wj Mj Ml M5 M6 ct X g := by
  have k : ∀ g : Nat, ∃ y : Nat × Nat × (Nat → Int) × (Nat → List Nat) × (Nat → SS), (g : Int) < T → GF f n C M M1 Mp M3 Wj Mj Ml M5 M6 ct (fun _ => y.1, fun _ => y.2.1, fun _ => y.2.2.1, fun _ => y.2.2.2.1, fun _ => y.2.2.2.2) g := fun g => by
    by_cases c : (g : Int) < T
    · obtain ⟨s, pos, stk, Fs, a1, a2, a3, a4, a5, a6, a7, a8, a9, a10, a11, a12, a13, a14, a15, a16, a17⟩ := h g c
      exact ⟨(s, ee g, pos, stk, Fs), fun _ => ⟨a1, a2, a3, a4, a5, by have := hn g c; show pos (ee g) + 1 ≤ n; omega, a8, a9, a10, a11, a12, a14, a15, a16, a17⟩⟩
    · exact ⟨(0, 0, fun _ => 0, fun _ => [], fun _ => []), fun q => absurd q c⟩
  obtain ⟨Y, hY⟩ := Classical.axiomOfChoice k
  exact ⟨(fun g => (Y g).1, fun g => (Y g).2.1, fun g => (Y g).2.2.1, fun g => (Y g).2.2.2.1, fun g => (Y g).2.2.2.2), fun g hg => hY g hg⟩
