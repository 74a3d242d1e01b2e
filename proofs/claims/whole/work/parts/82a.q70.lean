/-! RUN: numbers: quotients -/
set_option maxRecDepth 20000 in
theorem uL_div {a b : Int64} (ha : uL a < 2 ^ 63) (hb : uL b < 2 ^ 63) : uL (a / b) = uL a / uL b := by
  have h1 : uL a / uL b ≤ uL a := Nat.div_le_self _ _
  have e : (a / b).toInt = ((uL a / uL b : Nat) : Int) := by
    rw [Int64.toInt_div, uL_toInt ha, uL_toInt hb, ← Int.ofNat_tdiv, Int.bmod_eq_of_le (by omega) (by omega)]
  have h2 := uL_lt (a / b)
  rw [uL_ofInt] at e
  split at e <;> omega
set_option maxRecDepth 20000 in
theorem quo {a b : Int64} (hb : ¬ b = 0) : ∃ q, f_Ar_quotient a b = .ret q ∧ f_Mo_over a b = .ret q := by
  unfold f_Ar_quotient f_Mo_over
  simp only [jp]
  rw [if_neg hb]
  have hz : (0 : Int64).toInt = 0 := by decide
  have hb0 : 0 < uL b := by
    refine Nat.pos_of_ne_zero (fun q => hb (uL_inj ?_))
    rw [q, show uL 0 = 0 by decide]
  by_cases c : (0 : Int64).toInt ≤ b.toInt
  · rw [if_pos c, if_pos c, if_pos hb, below, obind_ret]
    dsimp only
    generalize hQ : (((a.toUInt64 >>> ((iI 1).toInt64.toUInt64 &&& Int64.toUInt64 63)).toInt64) / b) <<< ((iI 1).toInt64 &&& 63) = Q
    have hu := ult_add (a - Q * b) b
    by_cases ca : a.toInt < (0 : Int64).toInt
    · rw [if_pos ca, if_pos hb]
      by_cases cu : uL (a - Q * b) < uL b
      · rw [if_pos (hu.mpr cu), if_pos (decide_eq_true cu)]
        exact ⟨Q, rfl, by rw [Int64.add_zero]⟩
      · rw [if_neg (fun q => cu (hu.mp q)), if_neg (by rw [decide_eq_true_eq]; exact cu)]
        exact ⟨Q + 1, rfl, rfl⟩
    · rw [if_neg ca, if_pos hb]
      have hA : uL a < 2 ^ 63 := by
        have := uL_ofInt (w := a)
        have := uL_lt a
        split at * <;> omega
      have hB : uL b < 2 ^ 63 := by
        have := uL_ofInt (w := b)
        have := uL_lt b
        split at * <;> omega
      have h1 : uL ((a.toUInt64 >>> ((iI 1).toInt64.toUInt64 &&& Int64.toUInt64 63)).toInt64) = uL a / 2 := ush a (s := 1) (by decide) (by decide)
      have h2 : uL (((a.toUInt64 >>> ((iI 1).toInt64.toUInt64 &&& Int64.toUInt64 63)).toInt64) / b) = uL a / 2 / uL b := by
        rw [uL_div (by rw [h1]; omega) hB, h1]
      have h3 : uL a / 2 / uL b ≤ uL a / 2 := Nat.div_le_self _ _
      have h4 : uL Q = 2 * (uL a / 2 / uL b) := by
        rw [← hQ, show (iI 1).toInt64 &&& 63 = sL 1 from amt64 (i := 1) (by decide), uL_shl, sm64 ⟨1, by decide⟩, h2]
        show uL a / 2 / uL b * 2 ^ 1 % 2 ^ 64 = _
        omega
      have h5 := Nat.div_add_mod (uL a / 2) (uL b)
      have h6 : uL a / 2 % uL b < uL b := Nat.mod_lt _ hb0
      have h7 : uL Q * uL b = 2 * (uL b * (uL a / 2 / uL b)) := by rw [h4, Nat.mul_assoc, Nat.mul_comm (uL b)]
      have h8 : uL (a - Q * b) = uL a - 2 * (uL b * (uL a / 2 / uL b)) := by
        rw [uL_sub, uL_mul, h7]
        generalize uL b * (uL a / 2 / uL b) = m at h5 ⊢
        omega
      have h9 : uL (a / b) = uL a / uL b := uL_div hA hB
      by_cases cu : uL (a - Q * b) < uL b
      · rw [if_pos (decide_eq_true cu)]
        refine ⟨Q, rfl, congrArg _ (uL_inj ?_)⟩
        rw [h9, h4]
        refine Nat.div_eq_of_lt_le ?_ ?_
        · rw [Nat.mul_assoc, Nat.mul_comm (uL a / 2 / uL b)]
          generalize uL b * (uL a / 2 / uL b) = m at h5 h8 ⊢
          omega
        · rw [Nat.add_mul, Nat.mul_assoc, Nat.mul_comm (uL a / 2 / uL b)]
          generalize uL b * (uL a / 2 / uL b) = m at h5 h8 ⊢
          omega
      · rw [if_neg (by rw [decide_eq_true_eq]; exact cu)]
        refine ⟨Q + 1, rfl, congrArg _ (uL_inj ?_)⟩
        rw [h9, uL_add, h4, show uL 1 = 1 by decide, Nat.mod_eq_of_lt (by omega)]
        refine Nat.div_eq_of_lt_le ?_ ?_
        · rw [Nat.add_mul, Nat.mul_assoc, Nat.mul_comm (uL a / 2 / uL b)]
          generalize uL b * (uL a / 2 / uL b) = m at h5 h8 ⊢
          omega
        · rw [Nat.add_mul, Nat.add_mul, Nat.mul_assoc, Nat.mul_comm (uL a / 2 / uL b)]
          generalize uL b * (uL a / 2 / uL b) = m at h5 h8 ⊢
          omega
  · rw [if_neg c, if_neg c, below, obind_ret]
    have hu := ult_add a b
    by_cases cu : uL a < uL b
    · rw [if_pos (hu.mpr cu), if_pos (decide_eq_true cu)]
      exact ⟨0, rfl, rfl⟩
    · rw [if_neg (fun q => cu (hu.mp q)), if_neg (by rw [decide_eq_true_eq]; exact cu)]
      exact ⟨1, rfl, rfl⟩
set_option maxRecDepth 20000 in
theorem rem1 (a : Int64) : a - (a / -1) * -1 = 0 := by
  by_cases c : a = lMin
  · subst c; decide
  · have h1 := uL_lt a
    have h2 : uL a ≠ 2 ^ 63 := fun q => c (uL_inj (by rw [q]; decide))
    have e0 := uL_ofInt (w := a)
    have hm : -2 ^ 63 < a.toInt ∧ a.toInt < 2 ^ 63 := by split at e0 <;> omega
    have e1 : (a / -1).toInt = -a.toInt := by
      rw [Int64.toInt_div, show (-1 : Int64).toInt = -1 by decide, Int.tdiv_neg, Int.tdiv_one, Int.bmod_eq_of_le (by omega) (by omega)]
    have e2 : ((a / -1) * -1).toInt = a.toInt := by
      rw [Int64.toInt_mul, e1, show (-1 : Int64).toInt = -1 by decide, show -a.toInt * -1 = a.toInt by omega, Int.bmod_eq_of_le (by omega) (by omega)]
    rw [Int64.toInt_inj.mp e2, Int64.sub_self]
/-! RUN: numbers: two operands -/
set_option maxRecDepth 20000 in
theorem en_f (r : KRf) (c : Int) : f_Mo_ends r false c = .ret r := rfl
set_option maxRecDepth 20000 in
theorem en_t (r : KRf) (c : Int) : f_Mo_ends r true c = .thr c := rfl
set_option maxRecDepth 20000 in
theorem am_l (w : Int32) : (iI ((w &&& iI 31).toInt)).toInt64 &&& 63 = sL (nI w % 32) := by
  rw [← iI_of, andI31, and63, sI_j (by omega), Nat.mod_eq_of_lt (by omega)]
set_option maxRecDepth 20000 in
theorem am_u (w : Int32) : (iI ((w &&& iI 31).toInt)).toInt64.toUInt64 &&& Int64.toUInt64 63 = (sL (nI w % 32)).toUInt64 := by
  rw [← iI_of, andI31, and63u, sI_j (by omega), Nat.mod_eq_of_lt (by omega)]
set_option maxRecDepth 20000 in
theorem am_i (w : Int32) : (w &&& iI 31).toInt = ((nI w % 32 : Nat) : Int) := by
  rw [andI31]; exact sI_int ⟨nI w % 32, by omega⟩
set_option maxRecDepth 20000 in
theorem bm_l (w : Int32) : (iI ((w &&& iI 63).toInt)).toInt64 &&& 63 = sL (nI w % 64) := by
  rw [← iI_of, andI63, and63, sI_j (by omega), Nat.mod_eq_of_lt (by omega)]
set_option maxRecDepth 20000 in
theorem bm_u (w : Int32) : (iI ((w &&& iI 63).toInt)).toInt64.toUInt64 &&& Int64.toUInt64 63 = (sL (nI w % 64)).toUInt64 := by
  rw [← iI_of, andI63, and63u, sI_j (by omega), Nat.mod_eq_of_lt (by omega)]
set_option maxRecDepth 20000 in
theorem bm_i (w : Int32) : (w &&& iI 63).toInt = ((nI w % 64 : Nat) : Int) := by
  rw [andI63]; exact sI_int ⟨nI w % 64, by omega⟩
set_option maxRecDepth 20000 in
theorem dm_l {s k : Nat} (h : s < k) (h2 : k ≤ 64) (h3 : 0 < s) : (iI ((k : Int) - (s : Int))).toInt64 &&& 63 = sL (k - s) := by
  rw [show (k : Int) - (s : Int) = ((k - s : Nat) : Int) by omega]
  exact amt64 (by omega)
set_option maxRecDepth 20000 in
theorem dm_u {s k : Nat} (h : s < k) (h2 : k ≤ 64) (h3 : 0 < s) : (iI ((k : Int) - (s : Int))).toInt64.toUInt64 &&& Int64.toUInt64 63 = (sL (k - s)).toUInt64 := by
  rw [show (k : Int) - (s : Int) = ((k - s : Nat) : Int) by omega, and63u, iI_int, sI_j (by omega), Nat.mod_eq_of_lt (by omega)]
set_option maxRecDepth 20000 in
theorem cm_l (w : Int32) : w.toInt64 &&& 63 = sL (nI w % 64) := by
  have h := uL_i w
  have := uL_lt w.toInt64
  rw [and63, show uL w.toInt64 % 64 = nI w % 64 by omega]
set_option maxRecDepth 20000 in
theorem cm_u (w : Int32) : w.toInt64.toUInt64 &&& Int64.toUInt64 63 = (sL (nI w % 64)).toUInt64 := by
  have h := uL_i w
  have := uL_lt w.toInt64
  rw [and63u, show uL w.toInt64 % 64 = nI w % 64 by omega]
set_option maxRecDepth 20000 in
theorem n64 (b : Int64) : nI (-b).toInt32 % 64 = (64 - nI b.toInt32 % 64) % 64 := by
  have := uL_lt b
  rw [nI_l, nI_l, uL_neg]
  omega
set_option maxRecDepth 20000 in
theorem n32 (b : Int32) : nI (-b) % 32 = (32 - nI b % 32) % 32 := by
  have := nI_lt b
  rw [nI_neg]
  omega
section WRK
variable {r : KRf} {a b : Int64} {wa wb : Int32}
/-- two operands, answered alike -/
abbrev Wk (r : KRf) (k : Int) (a b least : Int64) (small : Bool) (J : Int64 → Prop) : Prop := (∃ v, f_Ar_reasonAgainst k a b least = .ret 0 ∧ f_Mo_worked r k a b small = .ret (r, v) ∧ J v) ∨ (∃ c, c ≠ 0 ∧ f_Ar_reasonAgainst k a b least = .ret c ∧ f_Mo_worked r k a b small = .thr c)
set_option maxRecDepth 20000 in
theorem ra_0 {k : Int} {least : Int64} (hk : k < 109 ∨ 112 < k) : f_Ar_reasonAgainst k a b least = .ret 0 := by
  unfold f_Ar_reasonAgainst
  simp only [jp]
  by_cases c : k < 109
  · rw [if_pos c]
  · rw [if_neg c, if_neg (by omega)]
set_option maxRecDepth 20000 in
theorem ra_4 {k : Int} {least : Int64} (hk : 109 ≤ k ∧ k ≤ 112) (hb : b = 0) : f_Ar_reasonAgainst k a b least = .ret 4 := by
  unfold f_Ar_reasonAgainst
  simp only [jp]
  rw [if_neg (by omega), if_pos hk.2, if_pos hb]
set_option maxRecDepth 20000 in
theorem ra_n {k : Int} {least : Int64} (hk : 110 ≤ k ∧ k ≤ 112) (hb : ¬ b = 0) : f_Ar_reasonAgainst k a b least = .ret 0 := by
  unfold f_Ar_reasonAgainst
  simp only [jp]
  rw [if_neg (by omega), if_pos hk.2, if_neg hb, if_neg (by omega)]
set_option maxRecDepth 20000 in
theorem wk_plain (small : Bool) {least : Int64} (hl : least = if small = true then -2147483648 else lMin) {k : Int} (hk : k = 106 ∨ k = 107 ∨ k = 108 ∨ k = 109 ∨ k = 111 ∨ k = 113 ∨ k = 114 ∨ k = 115) : Wk r k a b least small (fun v => f_Ar_joinLongs k a b = .ret v) := by
  rcases hk with hk | hk | hk | hk | hk | hk | hk | hk <;> subst hk
  · refine Or.inl ⟨a + b, ra_0 (by decide), ?_, by unfold f_Ar_joinLongs; simp only [Int.reduceEq, reduceIte]⟩
    cases small <;> (unfold f_Mo_worked; simp only [jp, Int.reduceEq, Int.reduceSub, reduceIte, Bool.false_eq_true]; rw [if_pos (by decide)])
  · refine Or.inl ⟨a - b, ra_0 (by decide), ?_, by unfold f_Ar_joinLongs; simp only [Int.reduceEq, reduceIte]⟩
    cases small <;> (unfold f_Mo_worked; simp only [jp, Int.reduceEq, Int.reduceSub, reduceIte, Bool.false_eq_true]; rw [if_pos (by decide)])
  · refine Or.inl ⟨a * b, ra_0 (by decide), ?_, by unfold f_Ar_joinLongs; simp only [Int.reduceEq, reduceIte]⟩
    cases small <;> (unfold f_Mo_worked; simp only [jp, Int.reduceEq, Int.reduceSub, reduceIte, Bool.false_eq_true]; rw [if_pos (by decide)])
  · by_cases hb : b = 0
    · refine Or.inr ⟨4, by decide, ra_4 (by decide) hb, ?_⟩
      cases small <;> (unfold f_Mo_worked; simp only [jp, Int.reduceEq, Int.reduceSub, reduceIte, Bool.false_eq_true]; rw [if_pos (by decide), if_pos hb, en_t, obind2_thr])
    · by_cases hc : b = -1 ∧ a = least
      · refine Or.inr ⟨5, by decide, ?_, ?_⟩
        · unfold f_Ar_reasonAgainst
          simp only [jp, Int.reduceLT, Int.reduceLE, reduceIte]
          rw [if_neg hb, if_pos hc.2, if_pos hc.1]
        · rw [hl] at hc
          cases small
          · simp only [reduceIte, Bool.false_eq_true] at hc
            unfold f_Mo_worked
            simp only [jp, Int.reduceEq, Int.reduceSub, reduceIte, Bool.false_eq_true]
            rw [if_pos (by decide), if_neg hb, en_f, obind2_ret, if_pos hc.1, if_pos hc.2, en_t, obind2_thr]
          · simp only [reduceIte] at hc
            unfold f_Mo_worked
            simp only [jp, Int.reduceEq, Int.reduceSub, reduceIte]
            rw [if_pos (by decide), if_neg hb, en_f, obind2_ret, if_pos hc.1, if_pos hc.2, en_t, obind2_thr]
      · refine Or.inl ⟨a / b, ?_, ?_, ?_⟩
        · unfold f_Ar_reasonAgainst
          simp only [jp, Int.reduceLT, Int.reduceLE, reduceIte]
          rw [if_neg hb]
          by_cases c1 : a = least
          · rw [if_pos c1, if_neg (fun q => hc ⟨q, c1⟩)]
          · rw [if_neg c1]
        · rw [hl] at hc
          cases small
          · simp only [reduceIte, Bool.false_eq_true] at hc
            unfold f_Mo_worked
            simp only [jp, Int.reduceEq, Int.reduceSub, reduceIte, Bool.false_eq_true]
            rw [if_pos (by decide), if_neg hb, en_f, obind2_ret]
            by_cases c1 : b = -1
            · rw [if_pos c1, if_neg (fun q => hc ⟨c1, q⟩), en_f, obind2_ret, if_pos hb]
            · rw [if_neg c1, en_f, obind2_ret, if_pos hb]
          · simp only [reduceIte] at hc
            unfold f_Mo_worked
            simp only [jp, Int.reduceEq, Int.reduceSub, reduceIte]
            rw [if_pos (by decide), if_neg hb, en_f, obind2_ret]
            by_cases c1 : b = -1
            · rw [if_pos c1, if_neg (fun q => hc ⟨c1, q⟩), en_f, obind2_ret, if_pos hb]
            · rw [if_neg c1, en_f, obind2_ret, if_pos hb]
        · unfold f_Ar_joinLongs
          simp only [jp, Int.reduceEq, reduceIte]
          rw [if_neg hb, if_pos hb]
  · by_cases hb : b = 0
    · refine Or.inr ⟨4, by decide, ra_4 (by decide) hb, ?_⟩
      cases small <;> (unfold f_Mo_worked; simp only [jp, Int.reduceEq, Int.reduceSub, reduceIte, Bool.false_eq_true]; rw [if_pos (by decide), if_pos hb, en_t, obind2_thr])
    · refine Or.inl ⟨a - (a / b) * b, ra_n (by decide) hb, ?_, ?_⟩
      · by_cases c1 : b = -1
        · have h9 : a - (a / b) * b = 0 := by rw [c1]; exact rem1 a
          rw [h9]
          cases small <;> (unfold f_Mo_worked; simp only [jp, Int.reduceEq, Int.reduceSub, reduceIte, Bool.false_eq_true]; rw [if_pos (by decide), if_neg hb, en_f, obind2_ret, if_pos c1])
        · cases small <;> (unfold f_Mo_worked; simp only [jp, Int.reduceEq, Int.reduceSub, reduceIte, Bool.false_eq_true]; rw [if_pos (by decide), if_neg hb, en_f, obind2_ret, if_neg c1, if_pos hb])
      · unfold f_Ar_joinLongs
        simp only [jp, Int.reduceEq, reduceIte]
        rw [if_neg hb, if_pos hb]
  · refine Or.inl ⟨a &&& b, ra_0 (by decide), ?_, by unfold f_Ar_joinLongs; simp only [Int.reduceEq, reduceIte]⟩
    cases small <;> (unfold f_Mo_worked; simp only [jp, Int.reduceEq, Int.reduceSub, reduceIte, Bool.false_eq_true]; rw [if_pos (by decide)])
  · refine Or.inl ⟨a ||| b, ra_0 (by decide), ?_, by unfold f_Ar_joinLongs; simp only [Int.reduceEq, reduceIte]⟩
    cases small <;> (unfold f_Mo_worked; simp only [jp, Int.reduceEq, Int.reduceSub, reduceIte, Bool.false_eq_true]; rw [if_pos (by decide)])
  · refine Or.inl ⟨a ^^^ b, ra_0 (by decide), ?_, by unfold f_Ar_joinLongs; simp only [Int.reduceEq, reduceIte]⟩
    cases small <;> (unfold f_Mo_worked; simp only [jp, Int.reduceEq, Int.reduceSub, reduceIte, Bool.false_eq_true]; rw [if_pos (by decide)])
set_option maxRecDepth 20000 in
theorem wk_over (small : Bool) {least : Int64} {k : Int} (hk : k = 110 ∨ k = 112) (hs : small = true → (b &&& 4294967295 = 0 → b = 0)) : Wk r k a b least small (fun v => f_Ar_joinLongs k (if small = true then a &&& 4294967295 else a) (if small = true then b &&& 4294967295 else b) = .ret v) := by
  by_cases hb : b = 0
  · refine Or.inr ⟨4, by decide, ra_4 (by omega) hb, ?_⟩
    rcases hk with hk | hk <;> subst hk <;> cases small <;> (unfold f_Mo_worked; simp only [jp, Int.reduceEq, Int.reduceSub, reduceIte, Bool.false_eq_true]; rw [if_pos (by decide), if_pos hb, en_t, obind2_thr])
  · cases small
    · obtain ⟨q, q1, q2⟩ := quo (a := a) hb
      simp only [reduceIte, Bool.false_eq_true]
      rcases hk with hk | hk <;> subst hk
      · refine Or.inl ⟨q, ra_n (by decide) hb, ?_, by unfold f_Ar_joinLongs; simp only [Int.reduceEq, reduceIte]; rw [q1, obind_ret]⟩
        unfold f_Mo_worked
        simp only [jp, Int.reduceEq, Int.reduceSub, reduceIte, Bool.false_eq_true]
        rw [if_pos (by decide), if_neg hb, en_f, obind2_ret, q2, obind_ret]
      · refine Or.inl ⟨a - q * b, ra_n (by decide) hb, ?_, by unfold f_Ar_joinLongs; simp only [Int.reduceEq, reduceIte]; rw [q1, obind_ret]⟩
        unfold f_Mo_worked
        simp only [jp, Int.reduceEq, Int.reduceSub, reduceIte, Bool.false_eq_true]
        rw [if_pos (by decide), if_neg hb, en_f, obind2_ret, q2, obind_ret]
    · obtain ⟨q, q1, q2⟩ := quo (a := a &&& 4294967295) (b := b &&& 4294967295) (fun z => hb (hs rfl z))
      simp only [reduceIte]
      rcases hk with hk | hk <;> subst hk
      · refine Or.inl ⟨q, ra_n (by decide) hb, ?_, by unfold f_Ar_joinLongs; simp only [Int.reduceEq, reduceIte]; rw [q1, obind_ret]⟩
        unfold f_Mo_worked
        simp only [jp, Int.reduceEq, Int.reduceSub, reduceIte]
        rw [if_pos (by decide), if_neg hb, en_f, obind2_ret, q2, obind_ret]
      · refine Or.inl ⟨(a &&& 4294967295) - q * (b &&& 4294967295), ra_n (by decide) hb, ?_, by unfold f_Ar_joinLongs; simp only [Int.reduceEq, reduceIte]; rw [q1, obind_ret]⟩
        unfold f_Mo_worked
        simp only [jp, Int.reduceEq, Int.reduceSub, reduceIte]
        rw [if_pos (by decide), if_neg hb, en_f, obind2_ret, q2, obind_ret]
set_option maxRecDepth 20000 in
/-- shifts and rotations of longs -/
theorem wk_shL {k : Int} (hk : 116 ≤ k ∧ k ≤ 120) : Wk r k a b lMin false (fun v => f_Ar_joinLongs k a b = .ret v) := by
  have hs : nI b.toInt32 % 64 < 64 := Nat.mod_lt _ (by decide)
  have hk2 : k = 116 ∨ k = 117 ∨ k = 118 ∨ k = 119 ∨ k = 120 := by omega
  have e0 : ∀ i : Nat, (!decide (i < 0) && bL a (i - 0) || bL a (0 + i)) = bL a i := fun i => by
    rw [Nat.zero_add, Nat.sub_zero, decide_eq_false (Nat.not_lt_zero i), Bool.not_false, Bool.true_and, Bool.or_self]
  rcases hk2 with hk2 | hk2 | hk2 | hk2 | hk2 <;> subst hk2
  · refine Or.inl ⟨a <<< sL (nI b.toInt32 % 64), ra_0 (by decide), ?_, ?_⟩
    · unfold f_Mo_worked; simp only [jp, Int.reduceEq, Int.reduceSub, reduceIte, Bool.false_eq_true]; rw [if_pos (by decide), bm_l]
    · unfold f_Ar_joinLongs; simp only [Int.reduceEq, reduceIte]; rw [cm_l]
  · refine Or.inl ⟨a >>> sL (nI b.toInt32 % 64), ra_0 (by decide), ?_, ?_⟩
    · unfold f_Mo_worked; simp only [jp, Int.reduceEq, Int.reduceSub, reduceIte, Bool.false_eq_true]; rw [if_pos (by decide), bm_l]
    · unfold f_Ar_joinLongs; simp only [Int.reduceEq, reduceIte]; rw [cm_l]
  · refine Or.inl ⟨(a.toUInt64 >>> (sL (nI b.toInt32 % 64)).toUInt64).toInt64, ra_0 (by decide), ?_, ?_⟩
    · unfold f_Mo_worked; simp only [jp, Int.reduceEq, Int.reduceSub, reduceIte, Bool.false_eq_true]; rw [if_pos (by decide), bm_u]
    · unfold f_Ar_joinLongs; simp only [Int.reduceEq, reduceIte]; rw [cm_u]
  · refine Or.inl ⟨(a <<< sL (nI b.toInt32 % 64)) ||| ((a.toUInt64 >>> (sL (nI (-b).toInt32 % 64)).toUInt64).toInt64), ra_0 (by decide), ?_, ?_⟩
    · unfold f_Mo_worked; simp only [jp, Int.reduceEq, Int.reduceSub, reduceIte, Bool.false_eq_true]; rw [if_pos (by decide), n64, bm_l, bm_i]
      generalize nI b.toInt32 % 64 = s at hs ⊢
      by_cases c : s = 0
      · subst c
        rw [if_pos rfl]
        refine congrArg _ (Prod.ext rfl (ext64 fun i hi => ?_))
        show bL a i = _
        rw [b_orL, b_shl64 a (by decide) hi, show (64 - 0) % 64 = 0 from rfl, b_shu64 a (by decide)]
        exact (e0 i).symm
      · rw [if_neg (by omega), if_pos (by omega), show (64 : Int) - (s : Int) = ((64 : Nat) : Int) - (s : Int) from rfl, dm_u hs (by decide) (by omega), Nat.mod_eq_of_lt (show 64 - s < 64 by omega)]
    · unfold f_Ar_joinLongs; simp only [Int.reduceEq, reduceIte]; rw [cm_l, cm_u]
  · refine Or.inl ⟨((a.toUInt64 >>> (sL (nI b.toInt32 % 64)).toUInt64).toInt64) ||| (a <<< sL (nI (-b).toInt32 % 64)), ra_0 (by decide), ?_, ?_⟩
    · unfold f_Mo_worked; simp only [jp, Int.reduceEq, Int.reduceSub, reduceIte, Bool.false_eq_true]; rw [if_pos (by decide), n64, bm_u, bm_i]
      generalize nI b.toInt32 % 64 = s at hs ⊢
      by_cases c : s = 0
      · subst c
        rw [if_pos rfl]
        refine congrArg _ (Prod.ext rfl (ext64 fun i hi => ?_))
        show bL a i = _
        rw [b_orL, show (64 - 0) % 64 = 0 from rfl, b_shl64 a (by decide) hi, b_shu64 a (by decide), Bool.or_comm]
        exact (e0 i).symm
      · rw [if_neg (by omega), if_pos (by omega), show (64 : Int) - (s : Int) = ((64 : Nat) : Int) - (s : Int) from rfl, dm_l hs (by decide) (by omega), Nat.mod_eq_of_lt (show 64 - s < 64 by omega)]
    · unfold f_Ar_joinLongs; simp only [Int.reduceEq, reduceIte]; rw [cm_l, cm_u]
end WRK
