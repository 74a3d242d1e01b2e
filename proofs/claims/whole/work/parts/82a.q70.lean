/-! RUN: numbers: quotients -/
set_option maxRecDepth 20000 in
/-- as jp's own equation, but for the kernel a step of its own -/
theorem jp_u {α β : Type} (k : α) (f : α → β) : jp k f = f k := by
  have h : jp k f = f k ∧ True := ⟨rfl, trivial⟩
  exact h.1
set_option maxRecDepth 20000 in
theorem uL_div {a b : Int64} (ha : uL a < 2 ^ 63) (hb : uL b < 2 ^ 63) : uL (a / b) = uL a / uL b := by
  have h1 : uL a / uL b ≤ uL a := Nat.div_le_self _ _
  obtain ⟨Q, hQ⟩ : ∃ Q, Q = uL a / uL b := ⟨_, rfl⟩
  rw [← hQ] at h1
  have e : (a / b).toInt = (Q : Int) := by
    rw [Int64.toInt_div, uL_toInt ha, uL_toInt hb, ← Int.ofNat_tdiv, ← hQ, Int.bmod_eq_of_le (by omega) (by omega)]
  have h2 := uL_lt (a / b)
  rw [uL_ofInt] at e
  rw [← hQ]
  split at e <;> omega
set_option maxRecDepth 20000 in
theorem uL_shl1 (x : Int64) : uL (x <<< ((iI 1).toInt64 &&& 63)) = uL x * 2 % 2 ^ 64 := by
  have e : (iI 1).toInt64 &&& 63 = sL 1 := by decide
  rw [e]
  unfold uL
  rw [shl64 x (by decide), BitVec.toNat_shiftLeft, Nat.shiftLeft_eq, Nat.pow_one]
set_option maxRecDepth 20000 in
theorem div2 {A B q : Nat} (hB : 0 < B) (hq : q = A / 2 / B) : 2 * (B * q) ≤ A ∧ (A - 2 * (B * q) < B → A / B = 2 * q) ∧ (¬ A - 2 * (B * q) < B → A / B = 2 * q + 1) := by
  have h5 := Nat.div_add_mod (A / 2) B
  have h6 : A / 2 % B < B := Nat.mod_lt _ hB
  rw [← hq] at h5
  have e1 : 2 * q * B = 2 * (B * q) := by rw [Nat.mul_assoc, Nat.mul_comm q]
  have e2 : (2 * q + 1) * B = 2 * (B * q) + B := by rw [Nat.add_mul, e1, Nat.one_mul]
  have e3 : (2 * q + 1 + 1) * B = 2 * (B * q) + B + B := by rw [Nat.add_mul, e2, Nat.one_mul]
  generalize B * q = m at *
  refine ⟨by omega, fun h => Nat.div_eq_of_lt_le (by omega) (by omega), fun h => Nat.div_eq_of_lt_le (by omega) (by omega)⟩
set_option maxRecDepth 20000 in
theorem quo1 {a b Q : Int64} (hA : uL a < 2 ^ 63) (hB : uL b < 2 ^ 63) (hb0 : 0 < uL b) (hQ : uL Q = 2 * (uL a / 2 / uL b)) : a / b = if uL (a - Q * b) < uL b then Q else Q + 1 := by
  obtain ⟨d1, d2, d3⟩ := div2 (A := uL a) hb0 rfl
  have h7 : uL Q * uL b = 2 * (uL b * (uL a / 2 / uL b)) := by rw [hQ, Nat.mul_assoc, Nat.mul_comm (uL b)]
  have h8 : uL (a - Q * b) = uL a - 2 * (uL b * (uL a / 2 / uL b)) := by
    rw [uL_sub, uL_mul, h7]
    generalize uL b * (uL a / 2 / uL b) = m at d1 ⊢
    omega
  have h9 : uL (a / b) = uL a / uL b := uL_div hA hB
  have h3 : uL a / 2 / uL b ≤ uL a / 2 := Nat.div_le_self _ _
  apply uL_inj
  by_cases cu : uL (a - Q * b) < uL b
  · rw [if_pos cu, h9, hQ]
    rw [h8] at cu
    exact d2 cu
  · rw [if_neg cu, h9, uL_add, hQ, show uL 1 = 1 by decide]
    rw [h8] at cu
    rw [d3 cu]
    generalize uL a / 2 / uL b = q at h3 ⊢
    omega
set_option maxRecDepth 20000 in
theorem quo {a b : Int64} (hb : ¬ b = 0) : ∃ q, f_Ar_quotient a b = .ret q ∧ f_Mo_over a b = .ret q := by
  unfold f_Ar_quotient f_Mo_over
  simp only [jp_u]
  rw [if_neg hb]
  have hz : (0 : Int64).toInt = 0 := by decide
  have hb0 : 0 < uL b := by
    refine Nat.pos_of_ne_zero (fun q => hb (uL_inj ?_))
    rw [q, show uL 0 = 0 by decide]
  have ua := uL_ofInt (w := a)
  have ub := uL_ofInt (w := b)
  have la := uL_lt a
  have lb := uL_lt b
  by_cases c : (0 : Int64).toInt ≤ b.toInt
  · have hB : uL b < 2 ^ 63 := by split at ub <;> omega
    rw [if_pos c, if_pos c, if_pos hb, below, obind_ret]
    have hQ := uL_shl1 (((a.toUInt64 >>> ((iI 1).toInt64.toUInt64 &&& Int64.toUInt64 63)).toInt64) / b)
    have h1 : uL ((a.toUInt64 >>> ((iI 1).toInt64.toUInt64 &&& Int64.toUInt64 63)).toInt64) = uL a / 2 := ush a (s := 1) (by decide) (by decide)
    rw [uL_div (by rw [h1]; omega) hB, h1] at hQ
    generalize (((a.toUInt64 >>> ((iI 1).toInt64.toUInt64 &&& Int64.toUInt64 63)).toInt64) / b) <<< ((iI 1).toInt64 &&& 63) = Q at hQ ⊢
    have hu := ult_add (a - Q * b) b
    have h3 : uL a / 2 / uL b ≤ uL a / 2 := Nat.div_le_self _ _
    have hQ2 : uL Q = 2 * (uL a / 2 / uL b) := by
      rw [hQ]
      generalize uL a / 2 / uL b = q at h3 ⊢
      omega
    by_cases ca : a.toInt < (0 : Int64).toInt
    · rw [if_pos ca, if_pos hb]
      by_cases cu : uL (a - Q * b) < uL b
      · rw [if_pos (hu.mpr cu), if_pos (decide_eq_true cu)]
        exact ⟨Q, rfl, by rw [Int64.add_zero]⟩
      · rw [if_neg (fun q => cu (hu.mp q)), if_neg (by rw [decide_eq_true_eq]; exact cu)]
        exact ⟨Q + 1, rfl, rfl⟩
    · have hA : uL a < 2 ^ 63 := by split at ua <;> omega
      rw [if_neg ca, if_pos hb, quo1 hA hB hb0 hQ2]
      by_cases cu : uL (a - Q * b) < uL b
      · rw [if_pos (decide_eq_true cu), if_pos cu]
        exact ⟨Q, rfl, rfl⟩
      · rw [if_neg (by rw [decide_eq_true_eq]; exact cu), if_neg cu]
        exact ⟨Q + 1, rfl, rfl⟩
  · rw [if_neg c, if_neg c, below, obind_ret]
    have hu := ult_add a b
    by_cases cu : uL a < uL b
    · rw [if_pos (hu.mpr cu), if_pos (decide_eq_true cu)]
      exact ⟨0, rfl, rfl⟩
    · rw [if_neg (fun q => cu (hu.mp q)), if_neg (by rw [decide_eq_true_eq]; exact cu)]
      exact ⟨1, rfl, rfl⟩
set_option maxRecDepth 20000 in
theorem rem1 (a : Int64) : a - (a / -1) * -1 = 0 := by
  by_cases c : a = lMin
  · subst c; decide
  · have h1 := uL_lt a
    have h2 : uL a ≠ 2 ^ 63 := fun q => c (uL_inj (by rw [q]; decide))
    have e0 := uL_ofInt (w := a)
    have hm : -2 ^ 63 < a.toInt ∧ a.toInt < 2 ^ 63 := by split at e0 <;> omega
    have e1 : (a / -1).toInt = -a.toInt := by
      rw [Int64.toInt_div, show (-1 : Int64).toInt = -1 by decide, Int.tdiv_neg, Int.tdiv_one, Int.bmod_eq_of_le (by omega) (by omega)]
    have e2 : ((a / -1) * -1).toInt = a.toInt := by
      rw [Int64.toInt_mul, e1, show (-1 : Int64).toInt = -1 by decide, show -a.toInt * -1 = a.toInt by omega, Int.bmod_eq_of_le (by omega) (by omega)]
    rw [Int64.toInt_inj.mp e2, Int64.sub_self]
/-! RUN: numbers: two operands -/
set_option maxRecDepth 20000 in
theorem en_f (r : KRf) (c : Int) : f_Mo_ends r false c = .ret r := rfl
set_option maxRecDepth 20000 in
theorem en_t (r : KRf) (c : Int) : f_Mo_ends r true c = .thr c := rfl
set_option maxRecDepth 20000 in
theorem am_l (w : Int32) : (iI ((w &&& iI 31).toInt)).toInt64 &&& 63 = sL (uI w % 32) := by
  rw [← iI_of, andI31, and63, sI_j (by omega), Nat.mod_eq_of_lt (by omega)]
set_option maxRecDepth 20000 in
theorem am_u (w : Int32) : (iI ((w &&& iI 31).toInt)).toInt64.toUInt64 &&& Int64.toUInt64 63 = (sL (uI w % 32)).toUInt64 := by
  rw [← iI_of, andI31, and63u, sI_j (by omega), Nat.mod_eq_of_lt (by omega)]
set_option maxRecDepth 20000 in
theorem am_i (w : Int32) : (w &&& iI 31).toInt = ((uI w % 32 : Nat) : Int) := by
  rw [andI31]; exact sI_int ⟨uI w % 32, by omega⟩
set_option maxRecDepth 20000 in
theorem bm_l (w : Int32) : (iI ((w &&& iI 63).toInt)).toInt64 &&& 63 = sL (uI w % 64) := by
  rw [← iI_of, andI63, and63, sI_j (by omega), Nat.mod_eq_of_lt (by omega)]
set_option maxRecDepth 20000 in
theorem bm_u (w : Int32) : (iI ((w &&& iI 63).toInt)).toInt64.toUInt64 &&& Int64.toUInt64 63 = (sL (uI w % 64)).toUInt64 := by
  rw [← iI_of, andI63, and63u, sI_j (by omega), Nat.mod_eq_of_lt (by omega)]
set_option maxRecDepth 20000 in
theorem bm_i (w : Int32) : (w &&& iI 63).toInt = ((uI w % 64 : Nat) : Int) := by
  rw [andI63]; exact sI_int ⟨uI w % 64, by omega⟩
set_option maxRecDepth 20000 in
theorem dm_l {s k : Nat} (h : s < k) (h2 : k ≤ 64) (h3 : 0 < s) : (iI ((k : Int) - (s : Int))).toInt64 &&& 63 = sL (k - s) := by
  rw [show (k : Int) - (s : Int) = ((k - s : Nat) : Int) by omega]
  exact amt64 (by omega)
set_option maxRecDepth 20000 in
theorem dm_u {s k : Nat} (h : s < k) (h2 : k ≤ 64) (h3 : 0 < s) : (iI ((k : Int) - (s : Int))).toInt64.toUInt64 &&& Int64.toUInt64 63 = (sL (k - s)).toUInt64 := by
  rw [show (k : Int) - (s : Int) = ((k - s : Nat) : Int) by omega, and63u, iI_int, sI_j (by omega), Nat.mod_eq_of_lt (by omega)]
set_option maxRecDepth 20000 in
theorem cm_l (w : Int32) : w.toInt64 &&& 63 = sL (uI w % 64) := by
  have h := uL_i w
  have := uL_lt w.toInt64
  rw [and63, show uL w.toInt64 % 64 = uI w % 64 by omega]
set_option maxRecDepth 20000 in
theorem cm_u (w : Int32) : w.toInt64.toUInt64 &&& Int64.toUInt64 63 = (sL (uI w % 64)).toUInt64 := by
  have h := uL_i w
  have := uL_lt w.toInt64
  rw [and63u, show uL w.toInt64 % 64 = uI w % 64 by omega]
set_option maxRecDepth 20000 in
theorem n64 (b : Int64) : uI (-b).toInt32 % 64 = (64 - uI b.toInt32 % 64) % 64 := by
  have := uL_lt b
  rw [uI_l, uI_l, uL_neg]
  omega
set_option maxRecDepth 20000 in
theorem n32 (b : Int32) : uI (-b) % 32 = (32 - uI b % 32) % 32 := by
  have := uI_lt b
  rw [uI_neg]
  omega
section WRK
variable {r : KRf} {a b : Int64} {wa wb : Int32}
/-- two operands, answered alike -/
abbrev Wk (r : KRf) (k : Int) (a b least : Int64) (small : Bool) (J : Int64 → Prop) : Prop := (∃ v, f_Ar_reasonAgainst k a b least = .ret 0 ∧ f_Mo_worked r k a b small = .ret (r, v) ∧ J v) ∨ (∃ c, c ≠ 0 ∧ f_Ar_reasonAgainst k a b least = .ret c ∧ f_Mo_worked r k a b small = .thr c)
set_option maxRecDepth 20000 in
theorem ra_0 {k : Int} {least : Int64} (hk : k < 109 ∨ 112 < k) : f_Ar_reasonAgainst k a b least = .ret 0 := by
  unfold f_Ar_reasonAgainst
  simp only [jp_u]
  by_cases c : k < 109
  · rw [if_pos c]
  · rw [if_neg c, if_neg (by omega)]
set_option maxRecDepth 20000 in
theorem ra_4 {k : Int} {least : Int64} (hk : 109 ≤ k ∧ k ≤ 112) (hb : b = 0) : f_Ar_reasonAgainst k a b least = .ret 4 := by
  unfold f_Ar_reasonAgainst
  simp only [jp_u]
  rw [if_neg (by omega), if_pos hk.2, if_pos hb]
set_option maxRecDepth 20000 in
theorem ra_n {k : Int} {least : Int64} (hk : 110 ≤ k ∧ k ≤ 112) (hb : ¬ b = 0) : f_Ar_reasonAgainst k a b least = .ret 0 := by
  unfold f_Ar_reasonAgainst
  simp only [jp_u]
  rw [if_neg (by omega), if_pos hk.2, if_neg hb, if_neg (by omega)]
set_option maxRecDepth 20000 in
theorem wk_plain (small : Bool) {least : Int64} (hl : least = if small = true then -2147483648 else lMin) {k : Int} (hk : k = 106 ∨ k = 107 ∨ k = 108 ∨ k = 109 ∨ k = 111 ∨ k = 113 ∨ k = 114 ∨ k = 115) : Wk r k a b least small (fun v => f_Ar_joinLongs k a b = .ret v) := by
  rcases hk with hk | hk | hk | hk | hk | hk | hk | hk <;> subst hk
  · refine Or.inl ⟨a + b, ra_0 (by decide), ?_, by unfold f_Ar_joinLongs; simp only [Int.reduceEq, reduceIte]⟩
    cases small <;> (unfold f_Mo_worked; simp only [jp_u, Int.reduceEq, Int.reduceSub, reduceIte, Bool.false_eq_true]; rw [if_pos (by decide)])
  · refine Or.inl ⟨a - b, ra_0 (by decide), ?_, by unfold f_Ar_joinLongs; simp only [Int.reduceEq, reduceIte]⟩
    cases small <;> (unfold f_Mo_worked; simp only [jp_u, Int.reduceEq, Int.reduceSub, reduceIte, Bool.false_eq_true]; rw [if_pos (by decide)])
  · refine Or.inl ⟨a * b, ra_0 (by decide), ?_, by unfold f_Ar_joinLongs; simp only [Int.reduceEq, reduceIte]⟩
    cases small <;> (unfold f_Mo_worked; simp only [jp_u, Int.reduceEq, Int.reduceSub, reduceIte, Bool.false_eq_true]; rw [if_pos (by decide)])
  · by_cases hb : b = 0
    · refine Or.inr ⟨4, by decide, ra_4 (by decide) hb, ?_⟩
      cases small <;> (unfold f_Mo_worked; simp only [jp_u, Int.reduceEq, Int.reduceSub, reduceIte, Bool.false_eq_true]; rw [if_pos (by decide), if_pos hb, en_t, obind2_thr])
    · by_cases hc : b = -1 ∧ a = least
      · refine Or.inr ⟨5, by decide, ?_, ?_⟩
        · unfold f_Ar_reasonAgainst
          simp only [jp_u, Int.reduceLT, Int.reduceLE, reduceIte]
          rw [if_neg hb, if_pos hc.2, if_pos hc.1]
        · rw [hl] at hc
          cases small
          · simp only [reduceIte, Bool.false_eq_true] at hc
            unfold f_Mo_worked
            simp only [jp_u, Int.reduceEq, Int.reduceSub, reduceIte, Bool.false_eq_true]
            rw [if_pos (by decide), if_neg hb, en_f, obind2_ret, if_pos hc.1, if_pos hc.2, en_t, obind2_thr]
          · simp only [reduceIte] at hc
            unfold f_Mo_worked
            simp only [jp_u, Int.reduceEq, Int.reduceSub, reduceIte]
            rw [if_pos (by decide), if_neg hb, en_f, obind2_ret, if_pos hc.1, if_pos hc.2, en_t, obind2_thr]
      · refine Or.inl ⟨a / b, ?_, ?_, ?_⟩
        · unfold f_Ar_reasonAgainst
          simp only [jp_u, Int.reduceLT, Int.reduceLE, reduceIte]
          rw [if_neg hb]
          by_cases c1 : a = least
          · rw [if_pos c1, if_neg (fun q => hc ⟨q, c1⟩)]
          · rw [if_neg c1]
        · rw [hl] at hc
          cases small
          · simp only [reduceIte, Bool.false_eq_true] at hc
            unfold f_Mo_worked
            simp only [jp_u, Int.reduceEq, Int.reduceSub, reduceIte, Bool.false_eq_true]
            rw [if_pos (by decide), if_neg hb, en_f, obind2_ret]
            by_cases c1 : b = -1
            · rw [if_pos c1, if_neg (fun q => hc ⟨c1, q⟩), en_f, obind2_ret, if_pos hb]
            · rw [if_neg c1, en_f, obind2_ret, if_pos hb]
          · simp only [reduceIte] at hc
            unfold f_Mo_worked
            simp only [jp_u, Int.reduceEq, Int.reduceSub, reduceIte]
            rw [if_pos (by decide), if_neg hb, en_f, obind2_ret]
            by_cases c1 : b = -1
            · rw [if_pos c1, if_neg (fun q => hc ⟨c1, q⟩), en_f, obind2_ret, if_pos hb]
            · rw [if_neg c1, en_f, obind2_ret, if_pos hb]
        · unfold f_Ar_joinLongs
          simp only [jp_u, Int.reduceEq, reduceIte]
          rw [if_neg hb, if_pos hb]
  · by_cases hb : b = 0
    · refine Or.inr ⟨4, by decide, ra_4 (by decide) hb, ?_⟩
      cases small <;> (unfold f_Mo_worked; simp only [jp_u, Int.reduceEq, Int.reduceSub, reduceIte, Bool.false_eq_true]; rw [if_pos (by decide), if_pos hb, en_t, obind2_thr])
    · refine Or.inl ⟨a - (a / b) * b, ra_n (by decide) hb, ?_, ?_⟩
      · by_cases c1 : b = -1
        · have h9 : a - (a / b) * b = 0 := by rw [c1]; exact rem1 a
          rw [h9]
          cases small <;> (unfold f_Mo_worked; simp only [jp_u, Int.reduceEq, Int.reduceSub, reduceIte, Bool.false_eq_true]; rw [if_pos (by decide), if_neg hb, en_f, obind2_ret, if_pos c1])
        · cases small <;> (unfold f_Mo_worked; simp only [jp_u, Int.reduceEq, Int.reduceSub, reduceIte, Bool.false_eq_true]; rw [if_pos (by decide), if_neg hb, en_f, obind2_ret, if_neg c1, if_pos hb])
      · unfold f_Ar_joinLongs
        simp only [jp_u, Int.reduceEq, reduceIte]
        rw [if_neg hb, if_pos hb]
  · refine Or.inl ⟨a &&& b, ra_0 (by decide), ?_, by unfold f_Ar_joinLongs; simp only [Int.reduceEq, reduceIte]⟩
    cases small <;> (unfold f_Mo_worked; simp only [jp_u, Int.reduceEq, Int.reduceSub, reduceIte, Bool.false_eq_true]; rw [if_pos (by decide)])
  · refine Or.inl ⟨a ||| b, ra_0 (by decide), ?_, by unfold f_Ar_joinLongs; simp only [Int.reduceEq, reduceIte]⟩
    cases small <;> (unfold f_Mo_worked; simp only [jp_u, Int.reduceEq, Int.reduceSub, reduceIte, Bool.false_eq_true]; rw [if_pos (by decide)])
  · refine Or.inl ⟨a ^^^ b, ra_0 (by decide), ?_, by unfold f_Ar_joinLongs; simp only [Int.reduceEq, reduceIte]⟩
    cases small <;> (unfold f_Mo_worked; simp only [jp_u, Int.reduceEq, Int.reduceSub, reduceIte, Bool.false_eq_true]; rw [if_pos (by decide)])
set_option maxRecDepth 20000 in
theorem wk_z (small : Bool) {least : Int64} {k : Int} (hk : k = 110 ∨ k = 112) (hb : b = 0) : f_Ar_reasonAgainst k a b least = .ret 4 ∧ f_Mo_worked r k a b small = .thr 4 := by
  refine ⟨ra_4 (by omega) hb, ?_⟩
  rcases hk with hk | hk <;> subst hk <;> cases small <;> (unfold f_Mo_worked; simp only [jp_u, Int.reduceEq, Int.reduceSub, reduceIte, Bool.false_eq_true]; rw [if_pos (by decide), if_pos hb, en_t, obind2_thr])
set_option maxRecDepth 20000 in
theorem jl_110 {x y q : Int64} (h : f_Ar_quotient x y = .ret q) : f_Ar_joinLongs 110 x y = .ret q := by
  unfold f_Ar_joinLongs
  simp only [Int.reduceEq, reduceIte]
  rw [h, obind_ret]
set_option maxRecDepth 20000 in
theorem jl_112 {x y q : Int64} (h : f_Ar_quotient x y = .ret q) : f_Ar_joinLongs 112 x y = .ret (x - q * y) := by
  unfold f_Ar_joinLongs
  simp only [Int.reduceEq, reduceIte]
  rw [h, obind_ret]
set_option maxRecDepth 20000 in
theorem wo_L {q : Int64} (hb : ¬ b = 0) (h : f_Mo_over a b = .ret q) : f_Mo_worked r 110 a b false = .ret (r, q) ∧ f_Mo_worked r 112 a b false = .ret (r, a - q * b) := by
  constructor
  · unfold f_Mo_worked
    simp only [jp_u, Int.reduceEq, Int.reduceSub, reduceIte, Bool.false_eq_true]
    rw [if_pos (by decide), if_neg hb, en_f, obind2_ret, h, obind_ret]
  · unfold f_Mo_worked
    simp only [jp_u, Int.reduceEq, Int.reduceSub, reduceIte, Bool.false_eq_true]
    rw [if_pos (by decide), if_neg hb, en_f, obind2_ret, h, obind_ret]
set_option maxRecDepth 20000 in
theorem wo_I {q y4 y6 : Int64} (h4 : a &&& 4294967295 = y4) (h6 : b &&& 4294967295 = y6) (hb : ¬ b = 0) (h : f_Mo_over y4 y6 = .ret q) : f_Mo_worked r 110 a b true = .ret (r, q) ∧ f_Mo_worked r 112 a b true = .ret (r, y4 - q * y6) := by
  constructor
  · unfold f_Mo_worked
    simp only [jp_u, Int.reduceEq, Int.reduceSub, reduceIte]
    rw [h4, h6, if_pos (by decide), if_neg hb, en_f, obind2_ret, h, obind_ret]
  · unfold f_Mo_worked
    simp only [jp_u, Int.reduceEq, Int.reduceSub, reduceIte]
    rw [h4, h6, if_pos (by decide), if_neg hb, en_f, obind2_ret, h, obind_ret]
set_option maxRecDepth 20000 in
theorem wk_overL {least : Int64} {k : Int} (hk : k = 110 ∨ k = 112) : Wk r k a b least false (fun v => f_Ar_joinLongs k a b = .ret v) := by
  by_cases hb : b = 0
  · exact Or.inr ⟨4, by decide, wk_z false hk hb⟩
  · obtain ⟨q, q1, q2⟩ := quo (a := a) hb
    obtain ⟨o1, o2⟩ := wo_L (r := r) hb q2
    rcases hk with hk | hk <;> subst hk
    · exact Or.inl ⟨q, ra_n (by decide) hb, o1, jl_110 q1⟩
    · exact Or.inl ⟨a - q * b, ra_n (by decide) hb, o2, jl_112 q1⟩
set_option maxRecDepth 20000 in
theorem wk_overI {least y4 y6 : Int64} {k : Int} (hk : k = 110 ∨ k = 112) (h4 : a &&& 4294967295 = y4) (h6 : b &&& 4294967295 = y6) (hs : y6 = 0 → b = 0) : Wk r k a b least true (fun v => f_Ar_joinLongs k y4 y6 = .ret v) := by
  by_cases hb : b = 0
  · exact Or.inr ⟨4, by decide, wk_z true hk hb⟩
  · obtain ⟨q, q1, q2⟩ := quo (a := y4) (b := y6) (fun z => hb (hs z))
    obtain ⟨o1, o2⟩ := wo_I (r := r) h4 h6 hb q2
    rcases hk with hk | hk <;> subst hk
    · exact Or.inl ⟨q, ra_n (by decide) hb, o1, jl_110 q1⟩
    · exact Or.inl ⟨y4 - q * y6, ra_n (by decide) hb, o2, jl_112 q1⟩
set_option maxRecDepth 20000 in
/-- shifts and rotations of longs -/
theorem wk_shL {k : Int} (hk : 116 ≤ k ∧ k ≤ 120) : Wk r k a b lMin false (fun v => f_Ar_joinLongs k a b = .ret v) := by
  have hs : uI b.toInt32 % 64 < 64 := Nat.mod_lt _ (by decide)
  have hk2 : k = 116 ∨ k = 117 ∨ k = 118 ∨ k = 119 ∨ k = 120 := by omega
  have e0 : ∀ i : Nat, (!decide (i < 0) && bL a (i - 0) || bL a (0 + i)) = bL a i := fun i => by
    rw [Nat.zero_add, Nat.sub_zero, decide_eq_false (Nat.not_lt_zero i), Bool.not_false, Bool.true_and, Bool.or_self]
  rcases hk2 with hk2 | hk2 | hk2 | hk2 | hk2 <;> subst hk2
  · refine Or.inl ⟨a <<< sL (uI b.toInt32 % 64), ra_0 (by decide), ?_, ?_⟩
    · unfold f_Mo_worked; simp only [jp_u, Int.reduceEq, Int.reduceSub, reduceIte, Bool.false_eq_true]; rw [if_pos (by decide), bm_l]
    · unfold f_Ar_joinLongs; simp only [Int.reduceEq, reduceIte]; rw [cm_l]
  · refine Or.inl ⟨a >>> sL (uI b.toInt32 % 64), ra_0 (by decide), ?_, ?_⟩
    · unfold f_Mo_worked; simp only [jp_u, Int.reduceEq, Int.reduceSub, reduceIte, Bool.false_eq_true]; rw [if_pos (by decide), bm_l]
    · unfold f_Ar_joinLongs; simp only [Int.reduceEq, reduceIte]; rw [cm_l]
  · refine Or.inl ⟨(a.toUInt64 >>> (sL (uI b.toInt32 % 64)).toUInt64).toInt64, ra_0 (by decide), ?_, ?_⟩
    · unfold f_Mo_worked; simp only [jp_u, Int.reduceEq, Int.reduceSub, reduceIte, Bool.false_eq_true]; rw [if_pos (by decide), bm_u]
    · unfold f_Ar_joinLongs; simp only [Int.reduceEq, reduceIte]; rw [cm_u]
  · refine Or.inl ⟨(a <<< sL (uI b.toInt32 % 64)) ||| ((a.toUInt64 >>> (sL (uI (-b).toInt32 % 64)).toUInt64).toInt64), ra_0 (by decide), ?_, ?_⟩
    · unfold f_Mo_worked; simp only [jp_u, Int.reduceEq, Int.reduceSub, reduceIte, Bool.false_eq_true]; rw [if_pos (by decide), n64, bm_l, bm_i]
      generalize uI b.toInt32 % 64 = s at hs ⊢
      by_cases c : s = 0
      · subst c
        rw [if_pos (show ((0 : Nat) : Int) = 0 from rfl)]
        refine congrArg _ (Prod.ext rfl (ext64 fun i hi => ?_))
        show bL a i = _
        rw [b_orL, b_shl64 a (by decide) hi, show (64 - 0) % 64 = 0 from rfl, b_shu64 a (by decide)]
        exact (e0 i).symm
      · rw [if_neg (by omega), if_pos (by omega), show (64 : Int) - (s : Int) = ((64 : Nat) : Int) - (s : Int) from rfl, dm_u hs (by decide) (by omega), Nat.mod_eq_of_lt (show 64 - s < 64 by omega)]
    · unfold f_Ar_joinLongs; simp only [Int.reduceEq, reduceIte]; rw [cm_l, cm_u]
  · refine Or.inl ⟨((a.toUInt64 >>> (sL (uI b.toInt32 % 64)).toUInt64).toInt64) ||| (a <<< sL (uI (-b).toInt32 % 64)), ra_0 (by decide), ?_, ?_⟩
    · unfold f_Mo_worked; simp only [jp_u, Int.reduceEq, Int.reduceSub, reduceIte, Bool.false_eq_true]; rw [if_pos (by decide), n64, bm_u, bm_i]
      generalize uI b.toInt32 % 64 = s at hs ⊢
      by_cases c : s = 0
      · subst c
        rw [if_pos (show ((0 : Nat) : Int) = 0 from rfl)]
        refine congrArg _ (Prod.ext rfl (ext64 fun i hi => ?_))
        show bL a i = _
        rw [b_orL, show (64 - 0) % 64 = 0 from rfl, b_shl64 a (by decide) hi, b_shu64 a (by decide), Bool.or_comm]
        exact (e0 i).symm
      · rw [if_neg (by omega), if_pos (by omega), show (64 : Int) - (s : Int) = ((64 : Nat) : Int) - (s : Int) from rfl, dm_l hs (by decide) (by omega), Nat.mod_eq_of_lt (show 64 - s < 64 by omega)]
    · unfold f_Ar_joinLongs; simp only [Int.reduceEq, reduceIte]; rw [cm_l, cm_u]
end WRK
