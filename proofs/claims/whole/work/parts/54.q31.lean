/-! VALID: the class, instruction by instruction -/
abbrev BOk (bo : KBo) (F : SS) : Prop := ROc bo F ∧ bo.openCount = (F.length : Int) ∧ F.length ≤ 101
set_option maxRecDepth 20000 in
theorem popA_snd {w : Int} {x : Fr} {y : Int × Fr} (h : popA w x = some y) : y.2.2 = x.2 := by
  obtain ⟨h1, h2, h3⟩ := popA_len h
  obtain ⟨a, b, c, d⟩ := y
  obtain ⟨p, q, r⟩ := x
  dsimp only at h2 h3
  rw [h2, h3]
set_option maxRecDepth 20000 in
theorem popO_snd {w : Int} {x y : Fr} (h : popO w x = some y) : y.2 = x.2 := by
  obtain ⟨h1, h2, h3⟩ := popO_len h
  obtain ⟨b, c, d⟩ := y
  obtain ⟨p, q, r⟩ := x
  dsimp only at h2 h3
  rw [h2, h3]
section COP
variable {g : Int} {R : SS} {N : Nat} {bo : KBo} {bt : KBt} {x : Fr}
set_option maxRecDepth 20000 in
theorem BOk.vs (h : BOk bo (x :: R)) {y : Fr} (e : y.2 = x.2) : BOk bo (y :: R) := by
  obtain ⟨⟨h1, h2, h3, h4, h5, h6, h7⟩, h8, h9⟩ := h
  exact ⟨⟨h1, by rw [e]; exact h2, by rw [e]; exact h3, by rw [e]; exact h4, by rw [e]; exact h5, by rw [e]; exact h6, h7⟩, h8, h9⟩
set_option maxRecDepth 20000 in
theorem c_pop2 {w : Int} (hw : Ty0 w) (hB : BOk bo (x :: R)) (hT : RT bt (x :: R)) (hn : tot (x :: R) ≤ N) (hN : N ≤ 2000) : Cvp g R N (f_BV_pop (KBV.mk g false) bt bo w) (popA w x) := c_pop hw hT hB.1 hB.2.1 hB.2.2 hn hN
set_option maxRecDepth 20000 in
theorem d_pop2 {w : Int} (hB : BOk bo (x :: R)) (hb : Hb bt) : ∃ bt' v, f_BV_pop (KBV.mk g true) bt bo w = .ret (KBV.mk g true, bt', v) ∧ Hb bt' := by
  obtain ⟨hO, hc, hl⟩ := hB
  rw [List.length_cons] at hc hl
  obtain ⟨ty, h⟩ := bt
  unfold f_BV_pop
  simp only [jp]
  by_cases c : w = 64
  · rw [if_pos c]; exact ⟨_, _, rfl, hb⟩
  rw [if_neg c, if_pos (show R32 (bo.openCount - 1) by omega), if_pos (show 0 ≤ bo.openCount - 1 ∧ bo.openCount - 1 < 101 by omega)]
  have hb2 : 0 ≤ bo.bases (bo.openCount - 1).toNat := by
    rw [show (bo.openCount - 1).toNat = R.length by omega, hO.1]; exact Int.natCast_nonneg _
  have hb : 0 ≤ h ∧ h ≤ 2000 := hb
  by_cases c2 : bo.bases (bo.openCount - 1).toNat < (KBt.height (ty, h))
  · have c3 : bo.bases (bo.openCount - 1).toNat < h := c2
    rw [if_pos c2, if_pos (show R32 (h - 1) by omega), if_pos (show 0 ≤ h - 1 ∧ h - 1 < 2000 by omega)]
    have q : Hb (KBt.mk ty (h - 1)) := by constructor <;> dsimp only [KBt.mk, KBt.height] <;> omega
    by_cases c4 : KBt.types (ty, h) (h - 1).toNat = 0
    · rw [if_pos c4]; exact ⟨_, _, rfl, q⟩
    · rw [if_neg c4]
      by_cases c5 : w = 0
      · rw [if_pos c5]; exact ⟨_, _, rfl, q⟩
      · rw [if_neg c5]
        by_cases c6 : w = KBt.types (ty, h) (h - 1).toNat
        · rw [if_pos c6]; exact ⟨_, _, rfl, q⟩
        · rw [if_neg c6]; exact ⟨_, _, rfl, q⟩
  · rw [if_neg c2, if_pos trivial]; exact ⟨_, _, rfl, hb⟩
set_option maxRecDepth 20000 in
theorem Dv.pop2 {w : Int} {H : KBV × KBt × Int → Out Empty (KBV × KBt)} (hB : BOk bo (x :: R)) (hb : Hb bt) (hk : ∀ bt v, Hb bt → Dv g (H (KBV.mk g true, bt, v))) : Dv g (obind (f_BV_pop (KBV.mk g true) bt bo w) H) := by
  obtain ⟨bt', v, e, h⟩ := d_pop2 (g := g) (w := w) hB hb
  rw [e, obind_ret]; exact hk bt' v h
set_option maxRecDepth 20000 in
theorem Dv.pushR {t : Int} (hb : Hb bt) : Dv g (obind (f_BV_push (KBV.mk g true) bt t) (fun x => .ret (x.1, x.2))) := (d_push hb).bind (fun bt hb => Dv.ret hb)
set_option maxRecDepth 20000 in
theorem Cv.pushR {t : Int} (ht : t = 127 ∨ t = 126) (hT : RT bt (x :: R)) (hn : tot (x :: R) ≤ N) (hN : N < 2000) : Cv g R (N + 1) (obind (f_BV_push (KBV.mk g false) bt t) (fun x => .ret (x.1, x.2))) (some (pushA t x)) := by
  obtain ⟨bt', e, h1, h2⟩ := c_push (g := g) (show Ty0 t from Or.inr ht) hT hn hN
  rw [show rT t = t from if_neg (by omega)] at e
  rw [e, obind_ret]; exact Cv.ret h1 h2
set_option maxRecDepth 20000 in
theorem Cv.up {G : Out Empty (KBV × KBt)} {X : Option Fr} {N' : Nat} (h : Cv g R N G X) (hn : N ≤ N') : Cv g R N' G X := by
  rcases h with ⟨y, bt, h1, h2, h3, h4⟩ | h
  · exact Or.inl ⟨y, bt, h1, h2, h3, by omega⟩
  · exact Or.inr h
set_option maxRecDepth 20000 in
theorem c_num2 {i o : Int} {one : Bool} (hi : i = 127 ∨ i = 126) (ho : o = 127 ∨ o = 126) (hB : BOk bo (x :: R)) (hT : RT bt (x :: R)) (hn : tot (x :: R) ≤ N) (hN : N < 2000) : Cv g R (N + 1) (f_BV_checkOperands (KBV.mk g false) bt bo one i o) (numA i o one x) := by
  unfold f_BV_checkOperands numA
  simp only [jp]
  refine Cvp.bind (c_pop2 (Or.inr hi) hB hT hn (by omega)) (fun y bt e1 e2 e3 e4 => ?_) (fun bt v hb => ?_)
  · dsimp only
    cases one with
    | true => rw [if_pos rfl, if_pos rfl]; exact Cv.pushR ho e3 e4 hN
    | false =>
      rw [if_neg Bool.false_ne_true, if_neg Bool.false_ne_true]
      refine Cvp.map (c_pop2 (Or.inr hi) (hB.vs (popA_snd e1)) e3 e4 (by omega)) (fun z bt f1 f2 f3 f4 => ?_) (fun bt v hb => ?_)
      · exact Cv.pushR ho f3 f4 hN
      · exact Dv.pushR hb
  · dsimp only
    cases one with
    | true => rw [if_pos rfl]; exact Dv.pushR hb
    | false => rw [if_neg Bool.false_ne_true]; exact Dv.pop2 hB hb (fun bt v hb => Dv.pushR hb)
set_option maxRecDepth 20000 in
theorem cv_id {G : Out Empty (KBV × KBt)} {X : Option Fr} (h : Cv g R N G X) : Cv g R N (obind G (fun x => .ret (x.1, x.2))) X := by
  rcases h with ⟨y, bt, rfl, rfl, h⟩ | ⟨bt, rfl, rfl, h⟩
  · exact Or.inl ⟨y, bt, rfl, rfl, h⟩
  · exact Or.inr ⟨bt, rfl, rfl, h⟩
abbrev numo (o : Int) : Prop := (69 ≤ o ∧ o ≤ 90) ∨ (103 ≤ o ∧ o ≤ 138) ∨ o = 167 ∨ o = 172 ∨ o = 173
set_option maxRecDepth 20000 in
theorem c_num {o : Int} (ho : numo o) (hB : BOk bo (x :: R)) (hT : RT bt (x :: R)) (hn : tot (x :: R) ≤ N) (hN : N < 2000) : Cv g R (N + 1) (f_BV_checkNumeric (KBV.mk g false) bt bo o) (numA (nIn o) (nOut o) (nOne o) x) := by
  unfold f_BV_checkNumeric
  simp only [jp]
  have k : ∀ (i u : Int) (b : Bool), (i = 127 ∨ i = 126) → (u = 127 ∨ u = 126) → nIn o = i → nOut o = u → nOne o = b → Cv g R (N + 1) (obind (f_BV_checkOperands (KBV.mk g false) bt bo b i u) (fun x => .ret (x.1, x.2))) (numA (nIn o) (nOut o) (nOne o) x) := by
    intro i u b h1 h2 h3 h4 h5
    rw [h3, h4, h5]
    exact cv_id (c_num2 h1 h2 hB hT hn hN)
  by_cases c1 : 79 < o
  · rw [if_pos c1]
    by_cases c2 : 90 < o
    · rw [if_pos c2]
      by_cases c3 : 120 < o
      · rw [if_pos c3]
        by_cases c4 : 138 < o
        · rw [if_pos c4]
          by_cases c5 : o = 167
          · rw [if_pos c5]
            subst c5
            exact k _ _ _ (by decide) (by decide) (by decide) (by decide) (by decide)
          · rw [if_neg c5]
            exact k _ _ _ (by decide) (by decide) (if_pos (by omega)) (by show (if o ≤ 90 ∨ o = 167 then (127 : Int) else _) = _; rw [if_neg (by omega), if_pos (by omega)]) (decide_eq_true (by omega))
        · rw [if_neg c4]
          have h1 : nIn o = 126 := if_neg (by omega)
          have h2 : nOut o = 126 := by show (if o ≤ 90 ∨ o = 167 then (127 : Int) else _) = _; rw [if_neg (by omega), if_neg (by omega)]; exact h1
          by_cases c6 : 123 < o
          · rw [if_pos c6]; exact k _ _ _ (by decide) (by decide) h1 h2 (decide_eq_false (by omega))
          · rw [if_neg c6]; exact k _ _ _ (by decide) (by decide) h1 h2 (decide_eq_true (by omega))
      · rw [if_neg c3]
        have h1 : nIn o = 127 := if_pos (by omega)
        have h2 : nOut o = 127 := by show (if o ≤ 90 ∨ o = 167 then (127 : Int) else _) = _; rw [if_neg (by omega), if_neg (by omega)]; exact h1
        by_cases c6 : 105 < o
        · rw [if_pos c6]; exact k _ _ _ (by decide) (by decide) h1 h2 (decide_eq_false (by omega))
        · rw [if_neg c6]; exact k _ _ _ (by decide) (by decide) h1 h2 (decide_eq_true (by omega))
    · rw [if_neg c2]
      have h1 : nIn o = 126 := if_neg (by omega)
      have h2 : nOut o = 127 := if_pos (by omega)
      by_cases c6 : o = 80
      · rw [if_pos c6]; exact k _ _ _ (by decide) (by decide) h1 h2 (decide_eq_true (by omega))
      · rw [if_neg c6]; exact k _ _ _ (by decide) (by decide) h1 h2 (decide_eq_false (by omega))
  · rw [if_neg c1]
    have h1 : nIn o = 127 := if_pos (by omega)
    have h2 : nOut o = 127 := if_pos (by omega)
    by_cases c6 : o = 69
    · rw [if_pos c6]; exact k _ _ _ (by decide) (by decide) h1 h2 (decide_eq_true (by omega))
    · rw [if_neg c6]; exact k _ _ _ (by decide) (by decide) h1 h2 (decide_eq_false (by omega))
/-! memory -/
set_option maxRecDepth 20000 in
theorem op_w {o : Int} : f_Op_width o = .ret (if o = 41 ∨ o = 55 then 8 else if o = 40 ∨ o = 54 then 4 else 1) := by
  unfold f_Op_width
  simp only [jp]
  by_cases c1 : o = 41
  · rw [if_pos c1, if_pos (Or.inl c1)]
  rw [if_neg c1]
  by_cases c2 : o = 55
  · rw [if_pos c2, if_pos (Or.inr c2)]
  rw [if_neg c2, if_neg (show ¬ (o = 41 ∨ o = 55) by omega)]
  by_cases c3 : o = 40
  · rw [if_pos c3, if_pos (Or.inl c3)]
  rw [if_neg c3]
  by_cases c4 : o = 54
  · rw [if_pos c4, if_pos (Or.inr c4)]
  rw [if_neg c4, if_neg (show ¬ (o = 40 ∨ o = 54) by omega)]
set_option maxRecDepth 20000 in
theorem op_l {o : Int} (h : ldst o) : f_Op_isLoad o = .ret (decide (o < 54)) := by
  unfold f_Op_isLoad
  simp only [jp]
  by_cases c : o < 54
  · rw [if_neg (by omega), if_neg (by omega), decide_eq_true c]
  · rw [if_neg (by omega), if_pos (by omega), decide_eq_false c]
set_option maxRecDepth 20000 in
theorem al_ok {e w : Int} (h0 : 0 ≤ e) (hw : w = 8 ∨ w = 4 ∨ w = 1) : (¬ 3 < e ∧ ((iI 1) <<< ((iI e) &&& 31)).toInt ≤ w) ↔ e ≤ (if w = 8 then 3 else if w = 4 then 2 else 0) := by
  by_cases c : 3 < e
  · constructor
    · intro h; exact absurd c h.1
    · intro h; rcases hw with q | q | q <;> subst q <;> (try simp at h) <;> omega
  · have : e = 0 ∨ e = 1 ∨ e = 2 ∨ e = 3 := by omega
    rcases this with q | q | q | q <;> subst q <;> rcases hw with q | q | q <;> subst q <;> decide
set_option maxRecDepth 20000 in
theorem c_acc {o e : Int} {b : Bool} (ho : ldst o) (h0 : 0 ≤ e) (hB : BOk bo (x :: R)) (hT : RT bt (x :: R)) (hn : tot (x :: R) ≤ N) (hN : N < 2000) : Cv g R (N + 1) (f_BV_checkAccess (KBV.mk g (!b)) bt bo o e) (memA b o e x) := by
  unfold f_BV_checkAccess memA
  rw [op_w, obind_ret]
  generalize hw : (if o = 41 ∨ o = 55 then (8 : Int) else if o = 40 ∨ o = 54 then 4 else 1) = w
  have hw1 : w = 8 ∨ w = 4 ∨ w = 1 := by
    rw [← hw]; split
    · exact Or.inl rfl
    · split
      · exact Or.inr (Or.inl rfl)
      · exact Or.inr (Or.inr rfl)
  have ho7 : o = 40 ∨ o = 41 ∨ o = 44 ∨ o = 45 ∨ o = 54 ∨ o = 55 ∨ o = 58 := by omega
  have hm : (if w = 8 then (3 : Int) else if w = 4 then 2 else 0) = mMost o := by
    rw [← hw]
    rcases ho7 with q | q | q | q | q | q | q <;> rw [q] <;> decide
  have ht : (if w = 8 then (126 : Int) else 127) = mTy o := by
    rw [← hw]
    rcases ho7 with q | q | q | q | q | q | q <;> rw [q] <;> decide
  have hal := al_ok h0 hw1
  rw [hm] at hal
  simp only [jp, op_l ho, obind_ret]
  have hty : mTy o = 127 ∨ mTy o = 126 := by
    show (if o = 41 ∨ o = 55 then (126 : Int) else 127) = 127 ∨ _
    by_cases c1 : o = 41 ∨ o = 55
    · right; show (if o = 41 ∨ o = 55 then (126 : Int) else 127) = _; rw [if_pos c1]
    · left; rw [if_neg c1]
  -- once the type is known
  have body : ∀ (bv : KBV), (if w = 8 then (if decide (o < 54) = true then obind (f_BV_pop bv bt bo 127) (fun x_16 => obind (f_BV_push x_16.1 x_16.2.1 126) (fun x_18 => .ret (x_18.1, x_18.2))) else obind (f_BV_pop bv bt bo 126) (fun x_12 => obind (f_BV_pop x_12.1 x_12.2.1 bo 127) (fun x_14 => .ret (x_14.1, x_14.2.1)))) else (if decide (o < 54) = true then obind (f_BV_pop bv bt bo 127) (fun x_16 => obind (f_BV_push x_16.1 x_16.2.1 127) (fun x_18 => .ret (x_18.1, x_18.2))) else obind (f_BV_pop bv bt bo 127) (fun x_12 => obind (f_BV_pop x_12.1 x_12.2.1 bo 127) (fun x_14 => (.ret (x_14.1, x_14.2.1) : Out Empty (KBV × KBt)))))) = if o < 54 then obind (f_BV_pop bv bt bo 127) (fun x_16 => obind (f_BV_push x_16.1 x_16.2.1 (mTy o)) (fun x_18 => .ret (x_18.1, x_18.2))) else obind (f_BV_pop bv bt bo (mTy o)) (fun x_12 => obind (f_BV_pop x_12.1 x_12.2.1 bo 127) (fun x_14 => .ret (x_14.1, x_14.2.1))) := by
    intro bv
    rw [← ht]
    by_cases c : o < 54
    · rw [decide_eq_true c, if_pos c]
      by_cases c8 : w = 8
      · rw [if_pos c8, if_pos c8, if_pos rfl]
      · rw [if_neg c8, if_neg c8, if_pos rfl]
    · rw [decide_eq_false c, if_neg c]
      by_cases c8 : w = 8
      · rw [if_pos c8, if_pos c8, if_neg Bool.false_ne_true]
      · rw [if_neg c8, if_neg c8, if_neg Bool.false_ne_true]
  simp only [body]
  have dead : Dv g (if o < 54 then obind (f_BV_pop (KBV.mk g true) bt bo 127) (fun x_16 => obind (f_BV_push x_16.1 x_16.2.1 (mTy o)) (fun x_18 => .ret (x_18.1, x_18.2))) else obind (f_BV_pop (KBV.mk g true) bt bo (mTy o)) (fun x_12 => obind (f_BV_pop x_12.1 x_12.2.1 bo 127) (fun x_14 => .ret (x_14.1, x_14.2.1)))) := by
    have hb : Hb bt := hT.Hb (by omega)
    split
    · exact Dv.pop2 hB hb (fun bt v hb => Dv.pushR hb)
    · exact Dv.pop2 hB hb (fun bt v hb => Dv.pop2 hB hb (fun bt v hb => Dv.ret hb))
  by_cases ca : e ≤ mMost o
  · obtain ⟨a1, a2⟩ := hal.mpr ca
    rw [if_neg a1, if_pos a2]
    cases b with
    | false =>
      rw [if_neg (show ¬ (false = true ∧ e ≤ mMost o) from fun q => absurd q.1 Bool.false_ne_true)]
      exact dead.Cv
    | true =>
      rw [if_pos (show true = true ∧ e ≤ mMost o from ⟨rfl, ca⟩)]
      by_cases c : o < 54
      · rw [if_pos c, if_pos c]
        refine Cvp.map (c_pop2 (Or.inr (Or.inl rfl)) hB hT hn (by omega)) (fun y bt e1 e2 e3 e4 => ?_) (fun bt v hb => Dv.pushR hb)
        exact Cv.pushR hty e3 e4 hN
      · rw [if_neg c, if_neg c]
        refine Cvp.bind (c_pop2 (Or.inr hty) hB hT hn (by omega)) (fun y bt e1 e2 e3 e4 => ?_) (fun bt v hb => Dv.pop2 hB hb (fun bt v hb => Dv.ret hb))
        refine Cvp.map (c_pop2 (Or.inr (Or.inl rfl)) (hB.vs (popA_snd e1)) e3 e4 (by omega)) (fun z bt f1 f2 f3 f4 => ?_) (fun bt v hb => Dv.ret hb)
        exact Cv.ret f3 (by omega)
  · rw [if_neg (show ¬ (b = true ∧ e ≤ mMost o) from fun q => ca q.2)]
    by_cases c3 : 3 < e
    · rw [if_pos c3]; exact dead.Cv
    · rw [if_neg c3, if_neg (show ¬ ((iI 1) <<< ((iI e) &&& 31)).toInt ≤ w from fun q => ca (hal.mp ⟨c3, q⟩))]; exact dead.Cv
set_option maxRecDepth 20000 in
theorem c_mem {C : KCo} {W5 : KW5} {M5 : KM5} {o : Int} {i : Nat} (hi : i < 2000) (h5 : R5 W5 M5) (ho : ldst o ∨ o = 63 ∨ o = 64) (h0 : ldst o → 0 ≤ C.extras i) (hB : BOk bo (x :: R)) (hT : RT bt (x :: R)) (hn : tot (x :: R) ≤ N) (hN : N < 2000) : Cv g R (N + 1) (f_BV_checkMemory C W5 (KBV.mk g false) bt bo o i) (if ldst o then memA (hasM M5) o (C.extras i) x else if o = 63 then (if hasM M5 = true then some (pushA 127 x) else none) else (if hasM M5 = true then (popA 127 x).map (fun y => pushA 127 y.2) else none)) := by
  have hm : hasM M5 = W5.hasMemory := by
    rcases h5 with ⟨k1, k2⟩ | ⟨a, b, h, k1, k2, _⟩
    · rw [k1]; show decide (0 < M5.memories) = false; rw [k2]; rfl
    · rw [k1, k2]; rfl
  have hb : Hb bt := hT.Hb (by omega)
  unfold f_BV_checkMemory
  simp only [jp, if_pos (show (0 : Int) ≤ i ∧ (i : Int) < 2000 by omega), Int.toNat_natCast]
  rw [hm]
  have e1 : ∀ (bv : KBV), bv = KBV.mk g (!W5.hasMemory) → Cv g R (N + 1) (if o = 63 then obind (f_BV_push bv bt 127) (fun x => .ret (x.1, x.2)) else if o = 64 then obind (f_BV_pop bv bt bo 127) (fun x_10 => obind (f_BV_push x_10.1 x_10.2.1 127) (fun x_12 => .ret (x_12.1, x_12.2))) else obind (f_BV_checkAccess bv bt bo o (C.extras i)) (fun x_8 => .ret (x_8.1, x_8.2))) (if ldst o then memA W5.hasMemory o (C.extras i) x else if o = 63 then (if W5.hasMemory = true then some (pushA 127 x) else none) else (if W5.hasMemory = true then (popA 127 x).map (fun y => pushA 127 y.2) else none)) := by
    rintro _ rfl
    by_cases c3 : o = 63
    · rw [if_pos c3, if_neg (by omega), if_pos c3]
      cases W5.hasMemory with
      | true => rw [if_pos rfl]; exact Cv.pushR (Or.inl rfl) hT hn hN
      | false => rw [if_neg Bool.false_ne_true]; exact (Dv.pushR hb).Cv
    · rw [if_neg c3]
      by_cases c4 : o = 64
      · rw [if_pos c4, if_neg (by omega), if_neg c3]
        cases W5.hasMemory with
        | true =>
          rw [if_pos rfl]
          exact Cvp.map (c_pop2 (Or.inr (Or.inl rfl)) hB hT hn (by omega)) (fun y bt e1 e2 e3 e4 => Cv.pushR (Or.inl rfl) e3 e4 hN) (fun bt v hb => Dv.pushR hb)
        | false => rw [if_neg Bool.false_ne_true]; exact (Dv.pop2 hB hb (fun bt v hb => Dv.pushR hb)).Cv
      · have hl : ldst o := by rcases ho with q | q | q; exact q; exact absurd q c3; exact absurd q c4
        rw [if_neg c4, if_pos hl]
        exact cv_id (c_acc hl (h0 hl) hB hT hn hN)
  by_cases cm : W5.hasMemory = true
  · rw [if_pos cm]; exact e1 _ (by rw [cm]; rfl)
  · rw [if_neg cm]; exact e1 _ (by rw [Bool.eq_false_iff.mpr cm]; rfl)
end COP
