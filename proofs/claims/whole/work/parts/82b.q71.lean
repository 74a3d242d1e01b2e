/-! RUN: numbers: two operands, ints -/
section WRI
variable {r : KRf} {wa wb : Int32}
set_option maxRecDepth 20000 in
theorem w_w (w : Int32) : w.toInt64.toInt32 = w := Int32.toInt32_toInt64 w
set_option maxRecDepth 20000 in
theorem b_w (w : Int32) {i : Nat} (h : i < 32) : bL w.toInt64 i = bI' w i := by rw [b_wide w (by omega), if_pos h]
set_option maxRecDepth 20000 in
theorem b_hi (w : Int32) {i : Nat} (h : 32 ≤ i) : bI' w i = false := BitVec.getLsbD_of_ge _ _ h
set_option maxRecDepth 20000 in
/-- the low bits alone -/
theorem b_m (w : Int32) {i : Nat} : bL (w.toInt64 &&& 4294967295) i = bI' w i := by
  rw [b_mask]
  by_cases c : i < 32
  · rw [decide_eq_true c, Bool.true_and, b_w w c]
  · rw [decide_eq_false c, Bool.false_and, b_hi w (by omega)]
set_option maxRecDepth 20000 in
/-- shifts and rotations of ints -/
theorem wk_shI {k : Int} (hk : 116 ≤ k ∧ k ≤ 120) : Wk r k wa.toInt64 wb.toInt64 (-2147483648) true (fun v => f_Ar_joinInts k wa wb = .ret v.toInt32) := by
  have hs : uI wb % 32 < 32 := Nat.mod_lt _ (by decide)
  have hk2 : k = 116 ∨ k = 117 ∨ k = 118 ∨ k = 119 ∨ k = 120 := by omega
  rcases hk2 with hk2 | hk2 | hk2 | hk2 | hk2 <;> subst hk2
  · refine Or.inl ⟨wa.toInt64 <<< sL (uI wb % 32), ra_0 (by decide), ?_, ?_⟩
    · unfold f_Mo_worked; simp only [jp_u, Int.reduceEq, Int.reduceSub, reduceIte]; rw [if_pos (by decide), w_w, am_l]
    · unfold f_Ar_joinInts; simp only [jp_u, Int.reduceEq, reduceIte]; rw [and31]
      refine congrArg _ (ext32 fun i hi => ?_)
      rw [b_low _ hi, b_shl64 _ (by omega) (by omega), b_shl32 _ hs hi]
      by_cases c : i < uI wb % 32
      · rw [decide_eq_true c, Bool.not_true, Bool.false_and, Bool.false_and]
      · rw [b_w wa (by omega)]
  · refine Or.inl ⟨wa.toInt64 >>> sL (uI wb % 32), ra_0 (by decide), ?_, ?_⟩
    · unfold f_Mo_worked; simp only [jp_u, Int.reduceEq, Int.reduceSub, reduceIte]; rw [if_pos (by decide), w_w, am_l]
    · unfold f_Ar_joinInts; simp only [jp_u, Int.reduceEq, reduceIte]; rw [and31]
      refine congrArg _ (ext32 fun i hi => ?_)
      rw [b_low _ hi, b_shr64 _ (by omega) (by omega), b_shr32 _ hs hi, if_pos (show uI wb % 32 + i < 64 by omega), b_wide wa (by omega)]
  · refine Or.inl ⟨((wa.toInt64 &&& 4294967295).toUInt64 >>> (sL (uI wb % 32)).toUInt64).toInt64, ra_0 (by decide), ?_, ?_⟩
    · unfold f_Mo_worked; simp only [jp_u, Int.reduceEq, Int.reduceSub, reduceIte]; rw [if_pos (by decide), w_w, am_u]
    · unfold f_Ar_joinInts; simp only [jp_u, Int.reduceEq, reduceIte]; rw [and31u]
      refine congrArg _ (ext32 fun i hi => ?_)
      rw [b_low _ hi, b_shu64 _ (by omega), b_shu32 _ hs, b_m]
  · by_cases c : uI wb % 32 = 0
    · refine Or.inl ⟨wa.toInt64, ra_0 (by decide), ?_, ?_⟩
      · unfold f_Mo_worked; simp only [jp_u, Int.reduceEq, Int.reduceSub, reduceIte]; rw [if_pos (by decide), w_w, am_i, c, if_pos (show ((0 : Nat) : Int) = 0 from rfl)]
      · unfold f_Ar_joinInts; simp only [jp_u, Int.reduceEq, reduceIte]; rw [and31, and31u, n32, c, w_w]
        refine congrArg _ (ext32 fun i hi => ?_)
        rw [b_orI, b_shl32 wa (by decide) hi, show (32 - 0) % 32 = 0 from rfl, b_shu32 wa (by decide), Nat.zero_add, Nat.sub_zero, decide_eq_false (Nat.not_lt_zero i), Bool.not_false, Bool.true_and, Bool.or_self]
    · refine Or.inl ⟨((wa.toInt64 &&& 4294967295) <<< sL (uI wb % 32)) ||| (((wa.toInt64 &&& 4294967295).toUInt64 >>> (sL (32 - uI wb % 32)).toUInt64).toInt64), ra_0 (by decide), ?_, ?_⟩
      · unfold f_Mo_worked; simp only [jp_u, Int.reduceEq, Int.reduceSub, reduceIte]; rw [if_pos (by decide), w_w, am_l, am_i]
        generalize uI wb % 32 = s at hs c ⊢
        rw [if_neg (by omega), if_pos (by omega), show (32 : Int) - (s : Int) = ((32 : Nat) : Int) - (s : Int) from rfl, dm_u hs (by decide) (by omega)]
      · unfold f_Ar_joinInts; simp only [jp_u, Int.reduceEq, reduceIte]; rw [and31, and31u, n32]
        generalize uI wb % 32 = s at hs c ⊢
        refine congrArg _ (ext32 fun i hi => ?_)
        rw [b_low _ hi, b_orL, b_orI, Nat.mod_eq_of_lt (show 32 - s < 32 by omega), b_shl32 wa hs hi, b_shu32 wa (by omega), b_shl64 _ (by omega) (by omega), b_shu64 _ (by omega), b_m, b_m]
  · by_cases c : uI wb % 32 = 0
    · refine Or.inl ⟨wa.toInt64, ra_0 (by decide), ?_, ?_⟩
      · unfold f_Mo_worked; simp only [jp_u, Int.reduceEq, Int.reduceSub, reduceIte]; rw [if_pos (by decide), w_w, am_i, c, if_pos (show ((0 : Nat) : Int) = 0 from rfl)]
      · unfold f_Ar_joinInts; simp only [jp_u, Int.reduceEq, reduceIte]; rw [and31, and31u, n32, c, w_w]
        refine congrArg _ (ext32 fun i hi => ?_)
        rw [b_orI, show (32 - 0) % 32 = 0 from rfl, b_shl32 wa (by decide) hi, b_shu32 wa (by decide), Nat.zero_add, Nat.sub_zero, decide_eq_false (Nat.not_lt_zero i), Bool.not_false, Bool.true_and, Bool.or_self]
    · refine Or.inl ⟨(((wa.toInt64 &&& 4294967295).toUInt64 >>> (sL (uI wb % 32)).toUInt64).toInt64) ||| ((wa.toInt64 &&& 4294967295) <<< sL (32 - uI wb % 32)), ra_0 (by decide), ?_, ?_⟩
      · unfold f_Mo_worked; simp only [jp_u, Int.reduceEq, Int.reduceSub, reduceIte]; rw [if_pos (by decide), w_w, am_u, am_i]
        generalize uI wb % 32 = s at hs c ⊢
        rw [if_neg (by omega), if_pos (by omega), show (32 : Int) - (s : Int) = ((32 : Nat) : Int) - (s : Int) from rfl, dm_l hs (by decide) (by omega)]
      · unfold f_Ar_joinInts; simp only [jp_u, Int.reduceEq, reduceIte]; rw [and31, and31u, n32]
        generalize uI wb % 32 = s at hs c ⊢
        refine congrArg _ (ext32 fun i hi => ?_)
        rw [b_low _ hi, b_orL, b_orI, Nat.mod_eq_of_lt (show 32 - s < 32 by omega), b_shl32 wa (by omega) hi, b_shu32 wa hs, b_shl64 _ (by omega) (by omega), b_shu64 _ (by omega), b_m, b_m]
set_option maxRecDepth 20000 in
/-- two ints -/
theorem wk_I {k : Int} (hk : 106 ≤ k ∧ k ≤ 120) : Wk r k wa.toInt64 wb.toInt64 (-2147483648) true (fun v => f_Ar_joinInts k wa wb = .ret v.toInt32) := by
  by_cases c : 116 ≤ k
  · exact wk_shI ⟨c, hk.2⟩
  by_cases c2 : k = 110 ∨ k = 112
  · have hz : wb.toInt64 &&& 4294967295 = 0 → wb.toInt64 = 0 := fun q => by
      have h1 := and32 wb.toInt64
      rw [q, uL_i, show uL 0 = 0 by decide] at h1
      rw [show wb = iI 0 from uI_inj (by rw [← h1]; decide)]
      decide
    rcases wk_overI (r := r) (a := wa.toInt64) (b := wb.toInt64) (least := -2147483648) c2 rfl rfl hz with ⟨v, e1, e2, e3⟩ | h
    · refine Or.inl ⟨v, e1, e2, ?_⟩
      unfold f_Ar_joinInts
      simp only [jp_u]
      by_cases c3 : k = 110
      · rw [if_pos c3, e3, obind_ret]
      · rw [if_neg c3, if_pos (by omega), e3, obind_ret]
    · exact Or.inr h
  · rcases wk_plain (r := r) (a := wa.toInt64) (b := wb.toInt64) true (least := -2147483648) rfl (k := k) (by omega) with ⟨v, e1, e2, e3⟩ | h
    · refine Or.inl ⟨v, e1, e2, ?_⟩
      unfold f_Ar_joinInts
      simp only [jp_u]
      rw [if_neg (by omega), if_neg (by omega), if_neg (by omega), if_neg (by omega), if_neg (by omega), if_neg (by omega), if_neg (by omega), e3, obind_ret]
    · exact Or.inr h
set_option maxRecDepth 20000 in
/-- two longs -/
theorem wk_L {k : Int} {a b : Int64} (hk : 106 ≤ k ∧ k ≤ 120) : Wk r k a b lMin false (fun v => f_Ar_joinLongs k a b = .ret v) := by
  by_cases c : 116 ≤ k
  · exact wk_shL ⟨c, hk.2⟩
  by_cases c2 : k = 110 ∨ k = 112
  · exact wk_overL c2
  · exact wk_plain (r := r) (a := a) (b := b) false (least := lMin) rfl (k := k) (by omega)
end WRI
/-! compared -/
set_option maxRecDepth 20000 in
theorem cmpd {k : Int} (hk : 70 ≤ k ∧ k ≤ 79) (a b : Int64) (small : Bool) : ∃ t : Bool, f_Ar_compares k a b = .ret t ∧ f_Mo_compared k a b small = .ret (if t = true then 1 else 0) := by
  unfold f_Ar_compares f_Mo_compared
  simp only [jp_u, below, obind_ret]
  have h1 := ult_add a b
  have h2 := ult_add b a
  have hk2 : k = 70 ∨ k = 71 ∨ k = 72 ∨ k = 73 ∨ k = 74 ∨ k = 75 ∨ k = 76 ∨ k = 77 ∨ k = 78 ∨ k = 79 := by omega
  rcases hk2 with hk2 | hk2 | hk2 | hk2 | hk2 | hk2 | hk2 | hk2 | hk2 | hk2 <;> subst hk2 <;> simp only [Int.reduceEq, Int.reduceLT, reduceIte, Bool.false_eq_true]
  · by_cases c : a = b
    · exact ⟨true, by rw [if_pos c], (if_pos c).trans rfl⟩
    · exact ⟨false, by rw [if_neg c], (if_neg c).trans rfl⟩
  · by_cases c : a = b
    · exact ⟨false, by rw [if_pos c], (if_pos c).trans rfl⟩
    · exact ⟨true, by rw [if_neg c], (if_neg c).trans rfl⟩
  · by_cases c : b.toInt ≤ a.toInt
    · exact ⟨false, by rw [if_pos c], (if_pos c).trans rfl⟩
    · exact ⟨true, by rw [if_neg c], (if_neg c).trans rfl⟩
  · by_cases c : uL a < uL b
    · exact ⟨true, by rw [decide_eq_true c], (if_neg (by have := h1.mpr c; omega)).trans rfl⟩
    · exact ⟨false, by rw [decide_eq_false c], (if_pos (by have := fun q => c (h1.mp q); omega)).trans rfl⟩
  · by_cases c : a.toInt ≤ b.toInt
    · exact ⟨false, by rw [if_pos c], (if_pos c).trans rfl⟩
    · exact ⟨true, by rw [if_neg c], (if_neg c).trans rfl⟩
  · by_cases c : uL b < uL a
    · exact ⟨true, by rw [decide_eq_true c], (if_neg (by have := h2.mpr c; omega)).trans rfl⟩
    · exact ⟨false, by rw [decide_eq_false c], (if_pos (by have := fun q => c (h2.mp q); omega)).trans rfl⟩
  · by_cases c : b.toInt < a.toInt
    · exact ⟨false, by rw [if_pos c], (if_pos c).trans rfl⟩
    · exact ⟨true, by rw [if_neg c], (if_neg c).trans rfl⟩
  · by_cases c : uL b < uL a
    · exact ⟨false, by rw [if_pos (decide_eq_true c)], (if_pos (h2.mpr c)).trans rfl⟩
    · exact ⟨true, by rw [if_neg (by rw [decide_eq_true_eq]; exact c)], (if_neg (fun q => c (h2.mp q))).trans rfl⟩
  · by_cases c : a.toInt < b.toInt
    · exact ⟨false, by rw [if_pos c], (if_pos c).trans rfl⟩
    · exact ⟨true, by rw [if_neg c], (if_neg c).trans rfl⟩
  · by_cases c : uL a < uL b
    · exact ⟨false, by rw [if_pos (decide_eq_true c)], (if_pos (h1.mpr c)).trans rfl⟩
    · exact ⟨true, by rw [if_neg (by rw [decide_eq_true_eq]; exact c)], (if_neg (fun q => c (h1.mp q))).trans rfl⟩
