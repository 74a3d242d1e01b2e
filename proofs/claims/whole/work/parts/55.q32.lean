/-! VALID: the class: variables, calls, the rest of what looks at the innermost block alone -/
/-- a function's locals agree -/
def LOk (Wj : KWj) (Mj : KMj) (Ml : KMl) (g : Nat) : Prop := Wj.localCounts g = Mj.localCount g ∧ 0 ≤ Mj.localCount g ∧ Mj.localCount g ≤ 60 ∧ ∀ k : Nat, (k : Int) < Mj.localCount g → Wj.locals (g * 60 + k) = Ml g k ∧ (Ml g k = 127 ∨ Ml g k = 126)
section COP
variable {g : Nat} {R : SS} {N : Nat} {bo : KBo} {bt : KBt} {x : Fr} {W1 : KW1} {W3 : KW3} {Wj : KWj} {M1 : KM1} {Mp : KMp} {M3 : KM3} {Mj : KMj} {Ml : KMl} {v : Int64}
set_option maxRecDepth 20000 in
theorem locA_ty {u t : Int} (hM : MOk W1 W3 M1 Mp M3) (hg : (g : Int) < M3.functions) (hL : LOk Wj Mj Ml g) (h0 : 0 ≤ u) (h : locA M1 Mp M3 Mj Ml g u = some t) : t = 127 ∨ t = 126 := by
  unfold locA at h
  by_cases c : u < pcn M1 M3 g + Mj.localCount g
  · rw [if_pos c] at h
    by_cases c2 : u < pcn M1 M3 g
    · rw [if_pos c2] at h; cases h
      exact (hM.pt hg (p := u.toNat) (by omega)).2
    · rw [if_neg c2] at h; cases h
      exact (hL.2.2.2 (u - pcn M1 M3 g).toNat (by omega)).2
  · rw [if_neg c] at h; cases h
set_option maxRecDepth 20000 in
theorem c_var (hM : MOk W1 W3 M1 Mp M3) (hg : (g : Int) < M3.functions) (hL : LOk Wj Mj Ml g) (h0 : 0 ≤ v.toInt) (h1 : v.toInt ≤ 2147483647) : f_Wa_variableTypeOf W1 W3 Wj g v = .ret (match locA M1 Mp M3 Mj Ml g v.toInt with | some t => t | none => 64) := by
  obtain ⟨p0, p8⟩ := hM.pc hg
  obtain ⟨l1, l2, l3, l4⟩ := hL
  have hg30 : g < 30 := (hM.ty hg).choose_spec.2.1
  unfold f_Wa_variableTypeOf
  rw [wa_pc hM hg, obind_ret]
  have e1 : ((iI (pcn M1 M3 g)).toInt64).toInt = pcn M1 M3 g := by rw [Int32.toInt_toInt64, iI_t (by omega)]
  simp only [jp]
  rw [e1, if_pos (show (0 : Int) ≤ g ∧ (g : Int) < 30 by omega), Int.toNat_natCast, l1]
  have e2 : ((iI (Mj.localCount g)).toInt64).toInt = Mj.localCount g := by rw [Int32.toInt_toInt64, iI_t (by omega)]
  have e3 : (v - (iI (pcn M1 M3 g)).toInt64).toInt = v.toInt - pcn M1 M3 g := by
    rw [Int64.toInt_sub, e1, Int.bmod_eq_of_le (by omega) (by omega)]
  by_cases c : pcn M1 M3 g ≤ v.toInt
  · rw [if_pos c, e2, e3]
    by_cases c2 : Mj.localCount g ≤ v.toInt - pcn M1 M3 g
    · rw [if_pos c2, show locA M1 Mp M3 Mj Ml g v.toInt = none from if_neg (by omega)]
    · rw [if_neg c2, show locA M1 Mp M3 Mj Ml g v.toInt = some (Ml g (v.toInt - pcn M1 M3 g).toNat) by unfold locA; rw [if_pos (by omega), if_neg (by omega)]]
      have e4 : ((iI ((g : Int) * 60)) + (v - (iI (pcn M1 M3 g)).toInt64).toInt32).toInt = (g : Int) * 60 + (v.toInt - pcn M1 M3 g) := by
        have : (v - (iI (pcn M1 M3 g)).toInt64).toInt32 = iI (v.toInt - pcn M1 M3 g) := by
          apply Int32.toInt_inj.mp
          rw [iI_t (by omega), Int64.toInt_toInt32, e3, Int.bmod_eq_of_le (by omega) (by omega)]
        rw [this, iI_add, iI_t (by omega)]
      rw [e4, if_pos (show R32 ((g : Int) * 60) by omega), if_pos (by omega), show ((g : Int) * 60 + (v.toInt - pcn M1 M3 g)).toNat = g * 60 + (v.toInt - pcn M1 M3 g).toNat by omega, (l4 (v.toInt - pcn M1 M3 g).toNat (by omega)).1]
  · rw [if_neg c, show locA M1 Mp M3 Mj Ml g v.toInt = some (ptp Mp M3 g v.toInt.toNat) by unfold locA; rw [if_pos (by omega), if_pos (by omega)]]
    have e5 : v.toInt32.toInt = ((v.toInt.toNat : Nat) : Int) := by
      rw [Int64.toInt_toInt32, Int.bmod_eq_of_le (by omega) (by omega)]; omega
    rw [e5, wa_pt hM hg (by omega), obind_ret]
set_option maxRecDepth 20000 in
theorem c_loc {o : Int} (ho : o = 32 ∨ o = 33 ∨ o = 34) {t : Int} (ht : t = 127 ∨ t = 126) (hB : BOk bo (x :: R)) (hT : RT bt (x :: R)) (hn : tot (x :: R) ≤ N) (hN : N < 2000) : Cv g R (N + 1) (f_BV_checkLocal (KBV.mk g false) bt bo o t) (if o = 32 then some (pushA t x) else if o = 33 then (popA t x).map Prod.snd else (popA t x).map (fun y => pushA t y.2)) := by
  unfold f_BV_checkLocal
  simp only [jp]
  rw [if_neg (show ¬ t = 64 by omega)]
  rcases ho with q | q | q
  · subst q
    simp only [Int.reduceEq, reduceIte]
    exact Cv.pushR ht hT hn hN
  · subst q
    simp only [Int.reduceEq, reduceIte]
    exact Cvp.map (c_pop2 (Or.inr ht) hB hT hn (by omega)) (fun y bt e1 e2 e3 e4 => Cv.ret e3 (by omega)) (fun bt v hb => Dv.ret hb)
  · subst q
    simp only [Int.reduceEq, reduceIte]
    exact Cvp.map (c_pop2 (Or.inr ht) hB hT hn (by omega)) (fun y bt e1 e2 e3 e4 => Cv.pushR ht e3 e4 hN) (fun bt v hb => Dv.pushR hb)
set_option maxRecDepth 20000 in
theorem c_loc64 {o : Int} (hb : Hb bt) : Dv g (f_BV_checkLocal (KBV.mk g false) bt bo o 64) := by
  unfold f_BV_checkLocal
  rw [if_pos rfl]; exact Dv.ret hb
set_option maxRecDepth 20000 in
theorem c_glb {W6 : KW6} {M6 : KM6} (h6 : R6 W6 M6) {o : Int} (ho : o = 35 ∨ o = 36) (h0 : 0 ≤ v.toInt) (h1 : v.toInt ≤ 2147483647) (hB : BOk bo (x :: R)) (hT : RT bt (x :: R)) (hn : tot (x :: R) ≤ N) (hN : N < 2000) : Cv g R (N + 1) (f_BV_checkGlobal W6 (KBV.mk g false) bt bo o v) (if o = 35 then (if v.toInt < M6.globals then some (pushA (M6.globalTypes v.toInt.toNat) x) else none) else (if v.toInt < M6.globals ∧ M6.changes v.toInt.toNat = true then (popA (M6.globalTypes v.toInt.toNat) x).map Prod.snd else none)) := by
  obtain ⟨T, t1, t2, t3, t4⟩ := h6
  have hb : Hb bt := hT.Hb (by omega)
  unfold f_BV_checkGlobal
  simp only [jp]
  rw [t2, Int32.toInt_toInt64, iI_t (by omega), t3]
  by_cases c : v.toInt < (T : Int)
  · obtain ⟨u, hu⟩ := Int.eq_ofNat_of_zero_le h0
    have e5 : v.toInt32.toInt = (u : Int) := by
      rw [Int64.toInt_toInt32, hu, Int.bmod_eq_of_le (by omega) (by omega)]
    obtain ⟨k1, k2, k3, k4, k5, k6, k7⟩ := t4 u (by omega)
    rw [if_pos c, e5, hu, Int.toNat_natCast, k1, k2, if_pos (show (0 : Int) ≤ u ∧ (u : Int) < 20 by omega)]
    rw [hu] at c
    rcases ho with q | q
    · subst q
      simp only [Int.reduceEq, reduceIte]
      rw [if_pos c]
      exact Cv.pushR k5 hT hn hN
    · subst q
      simp only [Int.reduceEq, reduceIte]
      by_cases cc : M6.changes u = true
      · rw [if_pos cc, if_pos (show (u : Int) < T ∧ M6.changes u = true from ⟨c, cc⟩), if_pos (show (0 : Int) ≤ u ∧ (u : Int) < 20 by omega), if_pos (show (0 : Int) ≤ u ∧ (u : Int) < 20 by omega)]
        refine Cvp.map (c_pop2 (Or.inr k5) hB hT hn (by omega)) (fun y bt e1 e2 e3 e4 => ?_) (fun bt v hb => ?_)
        · exact Cv.ret e3 (by omega)
        · exact Dv.ret hb
      · rw [if_neg cc, if_neg (show ¬ ((u : Int) < T ∧ M6.changes u = true) from fun q => cc q.2), if_pos (show (0 : Int) ≤ u ∧ (u : Int) < 20 by omega), if_pos (show (0 : Int) ≤ u ∧ (u : Int) < 20 by omega)]
        refine Dv.Cv (Dv.pop2 hB hb (fun bt v hb => ?_))
        exact Dv.ret hb
  · rw [if_neg c]
    rcases ho with q | q
    · subst q; simp only [reduceIte]; rw [if_neg c]; exact (Dv.ret hb).Cv
    · subst q; simp only [Int.reduceEq, reduceIte]; rw [if_neg (show ¬ (v.toInt < (T : Int) ∧ M6.changes v.toInt.toNat = true) from fun q => c q.1)]; exact (Dv.ret hb).Cv
set_option maxRecDepth 20000 in
/-- the parameters of a call -/
theorem cl_end {fu n : Nat} {bv : KBV} {p : Int} (h : p < 0) : L34_BV_checkCall fu W1 W3 bo v (n + 1) bv bt p = .ret (bv, bt, p) := by
  rw [L34_BV_checkCall.eq_2, if_pos h]
set_option maxRecDepth 20000 in
theorem cl_step {fu n f p : Nat} {bv : KBV} (hM : MOk W1 W3 M1 Mp M3) (hf : (f : Int) < M3.functions) (hv : v.toInt32.toInt = f) (hp : (p : Int) < pcn M1 M3 f) : L34_BV_checkCall fu W1 W3 bo v (n + 1) bv bt p = obind (f_BV_pop bv bt bo (ptp Mp M3 f p)) (fun x => L34_BV_checkCall fu W1 W3 bo v n x.1 x.2.1 ((p : Int) - 1)) := by
  have := (hM.pt hf hp).1
  rw [L34_BV_checkCall.eq_2, if_neg (by omega), hv, wa_pt hM hf hp, obind_ret]
  simp only [if_pos (show R32 ((p : Int) + -1) by omega)]
  rfl
set_option maxRecDepth 20000 in
theorem cl_dead {fu f : Nat} (hM : MOk W1 W3 M1 Mp M3) (hf : (f : Int) < M3.functions) (hv : v.toInt32.toInt = f) (hB : BOk bo (x :: R)) : ∀ (q n : Nat) (bt : KBt), (q : Int) ≤ pcn M1 M3 f → q < n → Hb bt → ∃ bt' p', L34_BV_checkCall fu W1 W3 bo v n (KBV.mk g true) bt ((q : Int) - 1) = .ret (KBV.mk g true, bt', p') ∧ Hb bt' := by
  intro q
  induction q with
  | zero =>
    intro n bt hq hn hb
    obtain ⟨n, rfl⟩ : ∃ q, n = q + 1 := ⟨n - 1, by omega⟩
    rw [cl_end (by omega)]
    exact ⟨_, _, rfl, hb⟩
  | succ q ih =>
    intro n bt hq hn hb
    obtain ⟨n, rfl⟩ : ∃ q, n = q + 1 := ⟨n - 1, by omega⟩
    rw [show ((q + 1 : Nat) : Int) - 1 = (q : Int) by omega, cl_step hM hf hv (by omega)]
    obtain ⟨bt', v', e, h⟩ := d_pop2 (g := (g : Int)) (w := ptp Mp M3 f q) hB hb
    rw [e, obind_ret]
    exact ih n bt' (by omega) (by omega) h
set_option maxRecDepth 20000 in
theorem cl_loop {fu f : Nat} (hM : MOk W1 W3 M1 Mp M3) (hf : (f : Int) < M3.functions) (hv : v.toInt32.toInt = f) (hN : N < 2000) : ∀ (q n : Nat) (bt : KBt) (x : Fr), (q : Int) ≤ pcn M1 M3 f → q < n → BOk bo (x :: R) → RT bt (x :: R) → tot (x :: R) ≤ N → (∃ y bt' p', popsA (ptp Mp M3 f) q x = some y ∧ L34_BV_checkCall fu W1 W3 bo v n (KBV.mk g false) bt ((q : Int) - 1) = .ret (KBV.mk g false, bt', p') ∧ RT bt' (y :: R) ∧ tot (y :: R) ≤ N ∧ y.2 = x.2) ∨ (∃ bt' p', popsA (ptp Mp M3 f) q x = none ∧ L34_BV_checkCall fu W1 W3 bo v n (KBV.mk g false) bt ((q : Int) - 1) = .ret (KBV.mk g true, bt', p') ∧ Hb bt') := by
  intro q
  induction q with
  | zero =>
    intro n bt x hq hn hB hT ht
    obtain ⟨n, rfl⟩ : ∃ q, n = q + 1 := ⟨n - 1, by omega⟩
    rw [cl_end (by omega)]
    exact Or.inl ⟨x, bt, _, rfl, rfl, hT, ht, rfl⟩
  | succ q ih =>
    intro n bt x hq hn hB hT ht
    obtain ⟨n, rfl⟩ : ∃ q, n = q + 1 := ⟨n - 1, by omega⟩
    rw [show ((q + 1 : Nat) : Int) - 1 = (q : Int) by omega, cl_step hM hf hv (by omega)]
    unfold popsA
    rcases c_pop2 (g := (g : Int)) (Or.inr (hM.pt hf (p := q) (by omega)).2) hB hT ht (by omega) with ⟨y, bt', e1, e2, e3, e4, e5⟩ | ⟨bt', v', e1, e2, e3⟩
    · rw [e1, e2, obind_ret]
      have hB' := hB.vs (popA_snd e1)
      rcases ih n bt' y.2 (by omega) (by omega) hB' e4 e5 with ⟨z, bt2, p2, f1, f2, f3, f4, f5⟩ | ⟨bt2, p2, f1, f2, f3⟩
      · exact Or.inl ⟨z, bt2, p2, f1, f2, f3, f4, f5.trans (popA_snd e1)⟩
      · exact Or.inr ⟨bt2, p2, f1, f2, f3⟩
    · rw [e1, e2, obind_ret]
      obtain ⟨bt2, p2, f1, f2⟩ := cl_dead (g := g) (fu := fu) hM hf hv hB q n bt' (by omega) (by omega) e3
      exact Or.inr ⟨bt2, p2, rfl, f1, f2⟩
set_option maxRecDepth 20000 in
theorem c_call {fu : Nat} (hfu : 10 < fu) (hM : MOk W1 W3 M1 Mp M3) (h0 : 0 ≤ v.toInt) (h1 : v.toInt ≤ 2147483647) (hB : BOk bo (x :: R)) (hT : RT bt (x :: R)) (hn : tot (x :: R) ≤ N) (hN : N < 2000) : Cv g R (N + 1) (f_BV_checkCall fu W1 W3 (KBV.mk g false) bt bo v) (if v.toInt < M3.functions then (popsA (ptp Mp M3 v.toInt.toNat) (pcn M1 M3 v.toInt.toNat).toNat x).map (fun y => pushA (res M1 M3 v.toInt.toNat) y) else none) := by
  have hb : Hb bt := hT.Hb (by omega)
  have hM' := hM
  obtain ⟨T1, T3, t1, t2, t3, t4, t5, t6, t7, t8, t9⟩ := hM'
  unfold f_BV_checkCall
  rw [t6, Int32.toInt_toInt64, iI_t (by omega), t7]
  by_cases c : v.toInt < (T3 : Int)
  · obtain ⟨u, hu⟩ := Int.eq_ofNat_of_zero_le h0
    have e5 : v.toInt32.toInt = (u : Int) := by
      rw [Int64.toInt_toInt32, hu, Int.bmod_eq_of_le (by omega) (by omega)]
    have hf : (u : Int) < M3.functions := by rw [t7]; omega
    obtain ⟨p0, p8⟩ := hM.pc hf
    rw [if_pos c, if_pos c, e5, hu, Int.toNat_natCast, wa_pc hM hf, obind_ret, if_pos (show R32 (pcn M1 M3 u - 1) by omega)]
    obtain ⟨P, hP⟩ := Int.eq_ofNat_of_zero_le p0
    rw [hP, Int.toNat_natCast]
    have dead : ∀ bt, Hb bt → Dv g (obind (f_Wa_resultOf W1 W3 u) (fun x_10 => obind (f_BV_push (KBV.mk g true) bt x_10) (fun x_12 => .ret (x_12.1, x_12.2)))) := by
      intro bt hb
      rw [wa_rs hM hf, obind_ret]; exact Dv.pushR hb
    rcases cl_loop (g := g) (fu := fu) (R := R) hM hf e5 hN P fu bt x (by omega) (by omega) hB hT hn with ⟨y, bt', p', f1, f2, f3, f4, f5⟩ | ⟨bt', p', f1, f2, f3⟩
    · rw [f1, f2, obind_ret, wa_rs hM hf, obind_ret]
      dsimp only
      obtain ⟨bt2, e, g1, g2⟩ := c_push (g := (g : Int)) (hM.rs hf) f3 f4 hN
      rw [e, obind_ret]; exact Cv.ret g1 g2
    · rw [f1, f2, obind_ret]; exact (dead bt' f3).Cv
  · rw [if_neg c, if_neg c]; exact (Dv.ret hb).Cv
set_option maxRecDepth 20000 in
theorem c_sel (hB : BOk bo (x :: R)) (hT : RT bt (x :: R)) (hn : tot (x :: R) ≤ N) (hN : N < 2000) : Cv g R (N + 1) (obind (f_BV_pop (KBV.mk g false) bt bo 127) (fun x_32 => obind (f_BV_pop x_32.1 x_32.2.1 bo 0) (fun x_34 => obind (f_BV_pop x_34.1 x_34.2.1 bo x_34.2.2) (fun x_36 => f_BV_push x_36.1 x_36.2.1 x_36.2.2)))) (selA x) := by
  unfold selA
  refine Cvp.bind (c_pop2 (by decide) hB hT hn (by omega)) (fun a bt a1 a2 a3 a4 => ?_) (fun bt v hb => Dv.pop2 hB hb (fun bt v hb => Dv.pop2 hB hb (fun bt v hb => d_push hb)))
  have hBa := hB.vs (popA_snd a1)
  refine Cvp.bind (c_pop2 (by decide) hBa a3 a4 (by omega)) (fun b bt b1 b2 b3 b4 => ?_) (fun bt v hb => Dv.pop2 hB hb (fun bt v hb => d_push hb))
  dsimp only
  have hBb := hBa.vs (popA_snd b1)
  -- the class takes the third with the second's type
  have hvt : Ty0 (vt b.1) := by rcases b2 with q | q | q <;> rw [q] <;> decide
  have key : ((popA 0 b.2).bind (fun c => if b.1 = c.1 ∨ b.1 = -1 ∨ c.1 = -1 then some ((if b.1 = -1 then c.1 else b.1) :: c.2.1, c.2.2) else none)) = (popA (vt b.1) b.2).bind (fun c => some (c.1 :: c.2.1, c.2.2)) := by
    obtain ⟨b0, vs, bl, br⟩ := b
    dsimp only at b2 b3 ⊢
    cases vs with
    | nil =>
      cases bl with
      | true => rcases b2 with q | q | q <;> subst q <;> rfl
      | false => rfl
    | cons t r =>
      have ht : TyS t := b3.2.2.1
      rcases b2 with q | q | q <;> subst q <;> rcases ht with w | w | w <;> subst w <;> rfl
  rw [key]
  refine Cvp.bind (c_pop2 hvt hBb b3 b4 (by omega)) (fun c bt c1 c2 c3 c4 => ?_) (fun bt v hb => d_push hb)
  dsimp only
  have hvc : vt c.1 = 0 ∨ vt c.1 = 127 ∨ vt c.1 = 126 := by rcases c2 with q | q | q <;> rw [q] <;> decide
  obtain ⟨bt', e, g1, g2⟩ := c_push' (g := (g : Int)) hvc c3 c4 hN
  have ev : (if vt c.1 = 0 then -1 else vt c.1) = c.1 := by rcases c2 with q | q | q <;> rw [q] <;> decide
  rw [ev] at g1 g2
  rw [e]; exact Cv.ret g1 g2
end COP
