/-! VALID: what each instruction does to the types -/
/-- types of functions agree, and every function has one -/
def MOk (W1 : KW1) (W3 : KW3) (M1 : KM1) (Mp : KMp) (M3 : KM3) : Prop := ∃ (T1 T3 : Nat), T1 ≤ 20 ∧ T3 ≤ 30 ∧ W1.typeCount = T1 ∧ M1.types = T1 ∧ TRel T1 W1.parameterCounts W1.results M1.parameterCount M1.results W1.parameters Mp ∧ W3.functionCount = T3 ∧ M3.functions = T3 ∧ FRel T3 W3.functionTypes M3.typeOf ∧ ∀ f, f < T3 → W3.functionTypes f < T1
def tyOf (M3 : KM3) (f : Nat) : Nat := ((M3.typeOf f).toInt32.toInt).toNat
abbrev pcn (M1 : KM1) (M3 : KM3) (f : Nat) : Int := M1.parameterCount (tyOf M3 f)
abbrev res (M1 : KM1) (M3 : KM3) (f : Nat) : Int := M1.results (tyOf M3 f)
abbrev ptp (Mp : KMp) (M3 : KM3) (f : Nat) : Nat → Int := Mp (tyOf M3 f)
section MOKS
variable {W1 : KW1} {W3 : KW3} {M1 : KM1} {Mp : KMp} {M3 : KM3} {f : Nat}
set_option maxRecDepth 20000 in
theorem MOk.ty (h : MOk W1 W3 M1 Mp M3) (hf : (f : Int) < M3.functions) : ∃ T1 : Nat, T1 ≤ 20 ∧ f < 30 ∧ W3.functionTypes f = (tyOf M3 f : Int) ∧ tyOf M3 f < T1 ∧ (M3.typeOf f).toInt32.toInt = (tyOf M3 f : Int) ∧ TRel T1 W1.parameterCounts W1.results M1.parameterCount M1.results W1.parameters Mp := by
  obtain ⟨T1, T3, h1, h2, h3, h4, h5, h6, h7, h8, h9⟩ := h
  obtain ⟨k1, k2, k3⟩ := h8 f (by omega)
  have k4 := h9 f (by omega)
  have e : (M3.typeOf f).toInt32.toInt = W3.functionTypes f := by
    rw [k3, Int32.toInt32_toInt64, iI_t (by omega)]
  have e2 : W3.functionTypes f = (tyOf M3 f : Int) := by unfold tyOf; rw [e]; omega
  exact ⟨T1, h1, by omega, e2, by omega, e.trans e2, h5⟩
set_option maxRecDepth 20000 in
theorem MOk.pc (h : MOk W1 W3 M1 Mp M3) (hf : (f : Int) < M3.functions) : 0 ≤ pcn M1 M3 f ∧ pcn M1 M3 f ≤ 8 := by
  obtain ⟨T1, a1, a2, a3, a4, a5, a6⟩ := h.ty hf
  obtain ⟨b1, b2, b3, b4, b5⟩ := a6.1 _ a4
  exact ⟨b2, b3⟩
set_option maxRecDepth 20000 in
theorem MOk.rs (h : MOk W1 W3 M1 Mp M3) (hf : (f : Int) < M3.functions) : Ty0 (res M1 M3 f) := by
  obtain ⟨T1, a1, a2, a3, a4, a5, a6⟩ := h.ty hf
  exact (a6.1 _ a4).2.2.2.2
set_option maxRecDepth 20000 in
theorem MOk.pt (h : MOk W1 W3 M1 Mp M3) (hf : (f : Int) < M3.functions) {p : Nat} (hp : (p : Int) < pcn M1 M3 f) : p < 8 ∧ (ptp Mp M3 f p = 127 ∨ ptp Mp M3 f p = 126) := by
  obtain ⟨T1, a1, a2, a3, a4, a5, a6⟩ := h.ty hf
  obtain ⟨b1, b2, b3⟩ := a6.2 _ _ ⟨a4, hp⟩
  exact ⟨b1, b3⟩
set_option maxRecDepth 20000 in
theorem wa_pc (h : MOk W1 W3 M1 Mp M3) (hf : (f : Int) < M3.functions) : f_Wa_parameterCountOf W1 W3 f = .ret (pcn M1 M3 f) := by
  obtain ⟨T1, a1, a2, a3, a4, a5, a6⟩ := h.ty hf
  unfold f_Wa_parameterCountOf
  rw [if_pos (by omega), Int.toNat_natCast, a3, if_pos (by omega), Int.toNat_natCast, (a6.1 _ a4).1]
set_option maxRecDepth 20000 in
theorem wa_rs (h : MOk W1 W3 M1 Mp M3) (hf : (f : Int) < M3.functions) : f_Wa_resultOf W1 W3 f = .ret (rT (res M1 M3 f)) := by
  obtain ⟨T1, a1, a2, a3, a4, a5, a6⟩ := h.ty hf
  unfold f_Wa_resultOf
  rw [if_pos (by omega), Int.toNat_natCast, a3, if_pos (by omega), Int.toNat_natCast, (a6.1 _ a4).2.2.2.1]
set_option maxRecDepth 20000 in
theorem wa_pt (h : MOk W1 W3 M1 Mp M3) (hf : (f : Int) < M3.functions) {p : Nat} (hp : (p : Int) < pcn M1 M3 f) : f_Wa_parameterTypeOf W1 W3 f p = .ret (ptp Mp M3 f p) := by
  obtain ⟨T1, a1, a2, a3, a4, a5, a6⟩ := h.ty hf
  obtain ⟨b1, b2, b3⟩ := a6.2 _ _ ⟨a4, hp⟩
  unfold f_Wa_parameterTypeOf
  rw [if_pos (by omega), Int.toNat_natCast, a3, if_pos (show R32 ((tyOf M3 f : Int) * 8) by omega), if_pos (show R32 ((tyOf M3 f : Int) * 8 + p) by omega), if_pos (by omega), show ((tyOf M3 f : Int) * 8 + p).toNat = tyOf M3 f * 8 + p by omega, b2]
set_option maxRecDepth 20000 in
theorem mo_ty (h : MOk W1 W3 M1 Mp M3) (hf : (f : Int) < M3.functions) : f_Mo_type M3 f = .ret (tyOf M3 f : Int) := by
  obtain ⟨T1, a1, a2, a3, a4, a5, a6⟩ := h.ty hf
  unfold f_Mo_type
  rw [if_pos (by omega), Int.toNat_natCast, a5]
end MOKS
def popsA (pt : Nat → Int) : Nat → Fr → Option Fr
  | 0, x => some x
  | n + 1, x => (popA (pt n) x).bind (fun y => popsA pt n y.2)
def numA (i o : Int) (one : Bool) (x : Fr) : Option Fr := (popA i x).bind (fun y => if one = true then some (pushA o y.2) else (popA i y.2).map (fun z => pushA o z.2))
abbrev nIn (o : Int) : Int := if o ≤ 79 ∨ (103 ≤ o ∧ o ≤ 120) ∨ 172 ≤ o then 127 else 126
abbrev nOut (o : Int) : Int := if o ≤ 90 ∨ o = 167 then 127 else if 172 ≤ o then 126 else nIn o
abbrev nOne (o : Int) : Bool := decide (o = 69 ∨ o = 80 ∨ (103 ≤ o ∧ o ≤ 105) ∨ (121 ≤ o ∧ o ≤ 123) ∨ 167 ≤ o)
def selA (x : Fr) : Option Fr := (popA 127 x).bind (fun a => (popA 0 a.2).bind (fun b => (popA 0 b.2).bind (fun c => if b.1 = c.1 ∨ b.1 = -1 ∨ c.1 = -1 then some ((if b.1 = -1 then c.1 else b.1) :: c.2.1, c.2.2) else none)))
abbrev mMost (o : Int) : Int := if o = 40 ∨ o = 54 then 2 else if o = 41 ∨ o = 55 then 3 else 0
abbrev mTy (o : Int) : Int := if o = 41 ∨ o = 55 then 126 else 127
def memA (mem : Bool) (o e : Int) (x : Fr) : Option Fr :=
  if mem = true ∧ e ≤ mMost o then (if o < 54 then (popA 127 x).map (fun y => pushA (mTy o) y.2) else (popA (mTy o) x).bind (fun y => (popA 127 y.2).map Prod.snd)) else none
/-- the type of a parameter or local -/
def locA (M1 : KM1) (Mp : KMp) (M3 : KM3) (Mj : KMj) (Ml : KMl) (g : Nat) (v : Int) : Option Int := if v < pcn M1 M3 g + Mj.localCount g then some (if v < pcn M1 M3 g then ptp Mp M3 g v.toNat else Ml g (v - pcn M1 M3 g).toNat) else none
abbrev hasM (M5 : KM5) : Bool := decide (0 < M5.memories)
/-- instructions that look at the innermost block alone -/
def opF (M1 : KM1) (Mp : KMp) (M3 : KM3) (Mj : KMj) (Ml : KMl) (M5 : KM5) (M6 : KM6) (g : Nat) (o : Int) (v : Int64) (e : Int) (x : Fr) : Option Fr :=
  if o = 16 then (if v.toInt < M3.functions then (popsA (ptp Mp M3 v.toInt.toNat) (pcn M1 M3 v.toInt.toNat).toNat x).map (fun y => pushA (res M1 M3 v.toInt.toNat) y) else none)
  else if o = 26 then (popA 0 x).map Prod.snd
  else if o = 27 then selA x
  else if o = 32 then (locA M1 Mp M3 Mj Ml g v.toInt).map (fun t => pushA t x)
  else if o = 33 then (locA M1 Mp M3 Mj Ml g v.toInt).bind (fun t => (popA t x).map Prod.snd)
  else if o = 34 then (locA M1 Mp M3 Mj Ml g v.toInt).bind (fun t => (popA t x).map (fun y => pushA t y.2))
  else if o = 35 then (if v.toInt < M6.globals then some (pushA (M6.globalTypes v.toInt.toNat) x) else none)
  else if o = 36 then (if v.toInt < M6.globals ∧ M6.changes v.toInt.toNat = true then (popA (M6.globalTypes v.toInt.toNat) x).map Prod.snd else none)
  else if o ≤ 58 then memA (hasM M5) o e x
  else if o = 63 then (if hasM M5 = true then some (pushA 127 x) else none)
  else if o = 64 then (if hasM M5 = true then (popA 127 x).map (fun y => pushA 127 y.2) else none)
  else if o = 65 then some (pushA 127 x)
  else if o = 66 then some (pushA 126 x)
  else numA (nIn o) (nOut o) (nOne o) x
