/-! RUN: numbers: words as bits -/
def uI (w : Int32) : Nat := w.toBitVec.toNat
set_option maxRecDepth 20000 in
theorem uI_lt (w : Int32) : uI w < 2 ^ 32 := w.toBitVec.isLt
set_option maxRecDepth 20000 in
theorem uI_inj {a b : Int32} (h : uI a = uI b) : a = b := Int32.toBitVec_inj.mp (BitVec.eq_of_toNat_eq h)
set_option maxRecDepth 20000 in
theorem uI_ofInt {w : Int32} : w.toInt = if uI w < 2 ^ 31 then (uI w : Int) else (uI w : Int) - 2 ^ 32 := by
  have h := uI_lt w
  show w.toBitVec.toInt = _
  rw [BitVec.toInt_eq_toNat_cond]
  unfold uI
  by_cases c : w.toBitVec.toNat < 2 ^ 31
  · rw [if_pos c, if_pos (by omega)]
  · rw [if_neg c, if_neg (by omega)]; omega
/-- the number s as a long, as an int -/
abbrev sL (s : Nat) : Int64 := Int64.ofNat s
abbrev sI (s : Nat) : Int32 := Int32.ofNat s
set_option maxRecDepth 20000 in
theorem uL_sL {s : Nat} (h : s < 2 ^ 64) : uL (sL s) = s := by
  show (BitVec.ofNat 64 s).toNat = s
  rw [BitVec.toNat_ofNat, Nat.mod_eq_of_lt h]
set_option maxRecDepth 20000 in
theorem uI_sI {s : Nat} (h : s < 2 ^ 32) : uI (sI s) = s := by
  show (BitVec.ofNat 32 s).toNat = s
  rw [BitVec.toNat_ofNat, Nat.mod_eq_of_lt h]
set_option maxRecDepth 20000 in
theorem and63 (k : Int64) : k &&& 63 = sL (uL k % 64) := by
  apply uL_inj
  rw [uL_sL (by omega)]
  unfold uL
  rw [Int64.toBitVec_and, BitVec.toNat_and, show (63 : Int64).toBitVec.toNat = 2 ^ 6 - 1 from by decide]
  exact Nat.and_two_pow_sub_one_eq_mod _ 6
set_option maxRecDepth 20000 in
theorem and63u (k : Int64) : k.toUInt64 &&& Int64.toUInt64 63 = (sL (uL k % 64)).toUInt64 := by
  rw [← and63]; rfl
set_option maxRecDepth 20000 in
theorem and31 (k : Int32) : k &&& 31 = sI (uI k % 32) := by
  apply uI_inj
  rw [uI_sI (by omega)]
  unfold uI
  rw [Int32.toBitVec_and, BitVec.toNat_and, show (31 : Int32).toBitVec.toNat = 2 ^ 5 - 1 from by decide]
  exact Nat.and_two_pow_sub_one_eq_mod _ 5
set_option maxRecDepth 20000 in
theorem and31u (k : Int32) : k.toUInt32 &&& Int32.toUInt32 31 = (sI (uI k % 32)).toUInt32 := by
  rw [← and31]; rfl
set_option maxRecDepth 20000 in
theorem andI63 (k : Int32) : k &&& iI 63 = sI (uI k % 64) := by
  apply uI_inj
  rw [uI_sI (by omega)]
  unfold uI
  rw [Int32.toBitVec_and, BitVec.toNat_and, show (iI 63).toBitVec.toNat = 2 ^ 6 - 1 from by decide]
  exact Nat.and_two_pow_sub_one_eq_mod _ 6
set_option maxRecDepth 20000 in
theorem andI31 (k : Int32) : k &&& iI 31 = sI (uI k % 32) := and31 k
set_option maxRecDepth 20000 in
theorem sI_i64 : ∀ s : Fin 64, uL ((sI s.val).toInt64) = s.val := by decide +kernel
set_option maxRecDepth 20000 in
theorem sI_j {s : Nat} (h : s < 64) : uL ((sI s).toInt64) = s := sI_i64 ⟨s, h⟩
set_option maxRecDepth 20000 in
theorem sI_int : ∀ s : Fin 64, (sI s.val).toInt = (s.val : Int) := by decide +kernel
set_option maxRecDepth 20000 in
theorem iI_int (s : Nat) : iI (s : Int) = sI s := Int32.ofInt_eq_ofNat
set_option maxRecDepth 20000 in
/-- an int's low bits as a long -/
theorem uL_i (w : Int32) : uL (w.toInt64) % 2 ^ 32 = uI w := by
  have h1 := Int32.toInt_toInt64 w
  rw [uI_ofInt, uL_ofInt] at h1
  have := uI_lt w
  have := uL_lt w.toInt64
  by_cases c1 : uL w.toInt64 < 2 ^ 63 <;> by_cases c2 : uI w < 2 ^ 31 <;> simp only [c1, c2, if_true, if_false] at h1 <;> omega
set_option maxRecDepth 20000 in
theorem uI_l (v : Int64) : uI v.toInt32 = uL v % 2 ^ 32 := by
  unfold uI uL
  rw [Int64.toBitVec_toInt32, BitVec.signExtend_eq_setWidth_of_le _ (by decide), BitVec.toNat_setWidth]
set_option maxRecDepth 20000 in
theorem uL_neg (v : Int64) : uL (-v) = (2 ^ 64 - uL v) % 2 ^ 64 := by
  unfold uL; rw [Int64.toBitVec_neg, BitVec.toNat_neg]
set_option maxRecDepth 20000 in
theorem uI_neg (v : Int32) : uI (-v) = (2 ^ 32 - uI v) % 2 ^ 32 := by
  unfold uI; rw [Int32.toBitVec_neg, BitVec.toNat_neg]
set_option maxRecDepth 20000 in
theorem uL_add (a b : Int64) : uL (a + b) = (uL a + uL b) % 2 ^ 64 := by
  unfold uL; rw [Int64.toBitVec_add, BitVec.toNat_add]
set_option maxRecDepth 20000 in
theorem uI_add (a b : Int32) : uI (a + b) = (uI a + uI b) % 2 ^ 32 := by
  unfold uI; rw [Int32.toBitVec_add, BitVec.toNat_add]
set_option maxRecDepth 20000 in
theorem uL_sub (a b : Int64) : uL (a - b) = (2 ^ 64 - uL b + uL a) % 2 ^ 64 := by
  unfold uL; rw [Int64.toBitVec_sub, BitVec.toNat_sub]
set_option maxRecDepth 20000 in
theorem uI_sub (a b : Int32) : uI (a - b) = (2 ^ 32 - uI b + uI a) % 2 ^ 32 := by
  unfold uI; rw [Int32.toBitVec_sub, BitVec.toNat_sub]
set_option maxRecDepth 20000 in
theorem uL_mul (a b : Int64) : uL (a * b) = (uL a * uL b) % 2 ^ 64 := by
  unfold uL; rw [Int64.toBitVec_mul, BitVec.toNat_mul]
set_option maxRecDepth 20000 in
theorem uL_and (a b : Int64) : uL (a &&& b) = uL a &&& uL b := by
  unfold uL; rw [Int64.toBitVec_and, BitVec.toNat_and]
set_option maxRecDepth 20000 in
theorem uI_and (a b : Int32) : uI (a &&& b) = uI a &&& uI b := by
  unfold uI; rw [Int32.toBitVec_and, BitVec.toNat_and]
set_option maxRecDepth 20000 in
theorem uL_xor (a b : Int64) : uL (a ^^^ b) = uL a ^^^ uL b := by
  unfold uL; rw [Int64.toBitVec_xor, BitVec.toNat_xor]
set_option maxRecDepth 20000 in
theorem uI_xor (a b : Int32) : uI (a ^^^ b) = uI a ^^^ uI b := by
  unfold uI; rw [Int32.toBitVec_xor, BitVec.toNat_xor]
/-! shifts -/
set_option maxRecDepth 20000 in
theorem sm64 : ∀ s : Fin 64, ((sL s.val).toBitVec.smod 64).toNat = s.val := by decide +kernel
set_option maxRecDepth 20000 in
theorem sm32 : ∀ s : Fin 32, ((sI s.val).toBitVec.smod 32).toNat = s.val := by decide +kernel
set_option maxRecDepth 20000 in
theorem um64 : ∀ s : Fin 64, ((sL s.val).toUInt64.toBitVec % 64).toNat = s.val := by decide +kernel
set_option maxRecDepth 20000 in
theorem um32 : ∀ s : Fin 32, ((sI s.val).toUInt32.toBitVec % 32).toNat = s.val := by decide +kernel
set_option maxRecDepth 20000 in
theorem shl64 (x : Int64) {s : Nat} (h : s < 64) : (x <<< sL s).toBitVec = x.toBitVec <<< s := by
  rw [Int64.toBitVec_shiftLeft, BitVec.shiftLeft_eq', sm64 ⟨s, h⟩]
set_option maxRecDepth 20000 in
theorem shr64 (x : Int64) {s : Nat} (h : s < 64) : (x >>> sL s).toBitVec = x.toBitVec.sshiftRight s := by
  rw [Int64.toBitVec_shiftRight, BitVec.sshiftRight_eq', sm64 ⟨s, h⟩]
set_option maxRecDepth 20000 in
theorem shu64 (x : Int64) {s : Nat} (h : s < 64) : ((x.toUInt64 >>> (sL s).toUInt64).toInt64).toBitVec = x.toBitVec >>> s := by
  rw [UInt64.toBitVec_toInt64, UInt64.toBitVec_shiftRight, BitVec.ushiftRight_eq', um64 ⟨s, h⟩, Int64.toBitVec_toUInt64]
set_option maxRecDepth 20000 in
theorem shl32 (x : Int32) {s : Nat} (h : s < 32) : (x <<< sI s).toBitVec = x.toBitVec <<< s := by
  rw [Int32.toBitVec_shiftLeft, BitVec.shiftLeft_eq', sm32 ⟨s, h⟩]
set_option maxRecDepth 20000 in
theorem shr32 (x : Int32) {s : Nat} (h : s < 32) : (x >>> sI s).toBitVec = x.toBitVec.sshiftRight s := by
  rw [Int32.toBitVec_shiftRight, BitVec.sshiftRight_eq', sm32 ⟨s, h⟩]
set_option maxRecDepth 20000 in
theorem shu32 (x : Int32) {s : Nat} (h : s < 32) : ((x.toUInt32 >>> (sI s).toUInt32).toInt32).toBitVec = x.toBitVec >>> s := by
  rw [UInt32.toBitVec_toInt32, UInt32.toBitVec_shiftRight, BitVec.ushiftRight_eq', um32 ⟨s, h⟩, Int32.toBitVec_toUInt32]
set_option maxRecDepth 20000 in
theorem uL_shr (x : Int64) {s : Nat} (h : s < 64) : uL ((x.toUInt64 >>> (sL s).toUInt64).toInt64) = uL x / 2 ^ s := by
  unfold uL; rw [shu64 x h, BitVec.toNat_ushiftRight, Nat.shiftRight_eq_div_pow]
set_option maxRecDepth 20000 in
theorem uI_shr (x : Int32) {s : Nat} (h : s < 32) : uI ((x.toUInt32 >>> (sI s).toUInt32).toInt32) = uI x / 2 ^ s := by
  unfold uI; rw [shu32 x h, BitVec.toNat_ushiftRight, Nat.shiftRight_eq_div_pow]
/-! bits -/
abbrev bL (v : Int64) (i : Nat) : Bool := v.toBitVec.getLsbD i
abbrev bI' (v : Int32) (i : Nat) : Bool := v.toBitVec.getLsbD i
set_option maxRecDepth 20000 in
theorem ext32 {a b : Int32} (h : ∀ i, i < 32 → bI' a i = bI' b i) : a = b := Int32.toBitVec_inj.mp (BitVec.eq_of_getLsbD_eq h)
set_option maxRecDepth 20000 in
theorem ext64 {a b : Int64} (h : ∀ i, i < 64 → bL a i = bL b i) : a = b := Int64.toBitVec_inj.mp (BitVec.eq_of_getLsbD_eq h)
set_option maxRecDepth 20000 in
theorem b_low (v : Int64) {i : Nat} (h : i < 32) : bI' v.toInt32 i = bL v i := by
  show v.toInt32.toBitVec.getLsbD i = _
  rw [Int64.toBitVec_toInt32, BitVec.signExtend_eq_setWidth_of_le _ (by decide), BitVec.getLsbD_setWidth, decide_eq_true h, Bool.true_and]
set_option maxRecDepth 20000 in
theorem b_wide (w : Int32) {i : Nat} (h : i < 64) : bL w.toInt64 i = if i < 32 then bI' w i else bI' w 31 := by
  show w.toInt64.toBitVec.getLsbD i = _
  rw [Int32.toBitVec_toInt64, BitVec.getLsbD_signExtend, decide_eq_true h, Bool.true_and]
  by_cases c : i < 32
  · rw [if_pos c, if_pos c]
  · rw [if_neg c, if_neg c, BitVec.msb_eq_getLsbD_last]
set_option maxRecDepth 20000 in
theorem b_m32 : ∀ i : Fin 64, bL 4294967295 i.val = decide (i.val < 32) := by decide +kernel
set_option maxRecDepth 20000 in
theorem b_mask (v : Int64) (i : Nat) : bL (v &&& 4294967295) i = (decide (i < 32) && bL v i) := by
  show (v &&& 4294967295).toBitVec.getLsbD i = _
  rw [Int64.toBitVec_and, BitVec.getLsbD_and]
  by_cases c : i < 64
  · rw [show (4294967295 : Int64).toBitVec.getLsbD i = _ from b_m32 ⟨i, c⟩, Bool.and_comm]
  · rw [BitVec.getLsbD_of_ge _ _ (by omega), show bL v i = false from BitVec.getLsbD_of_ge _ _ (by omega), Bool.false_and, Bool.and_false]
set_option maxRecDepth 20000 in
theorem b_shl64 (x : Int64) {s : Nat} (h : s < 64) {i : Nat} (hi : i < 64) : bL (x <<< sL s) i = (!decide (i < s) && bL x (i - s)) := by
  show (x <<< sL s).toBitVec.getLsbD i = _
  rw [shl64 x h, BitVec.getLsbD_shiftLeft, decide_eq_true hi, Bool.true_and]
set_option maxRecDepth 20000 in
theorem b_shl32 (x : Int32) {s : Nat} (h : s < 32) {i : Nat} (hi : i < 32) : bI' (x <<< sI s) i = (!decide (i < s) && bI' x (i - s)) := by
  show (x <<< sI s).toBitVec.getLsbD i = _
  rw [shl32 x h, BitVec.getLsbD_shiftLeft, decide_eq_true hi, Bool.true_and]
set_option maxRecDepth 20000 in
theorem b_shu64 (x : Int64) {s : Nat} (h : s < 64) (i : Nat) : bL ((x.toUInt64 >>> (sL s).toUInt64).toInt64) i = bL x (s + i) := by
  show ((x.toUInt64 >>> (sL s).toUInt64).toInt64).toBitVec.getLsbD i = _
  rw [shu64 x h, BitVec.getLsbD_ushiftRight]
set_option maxRecDepth 20000 in
theorem b_shu32 (x : Int32) {s : Nat} (h : s < 32) (i : Nat) : bI' ((x.toUInt32 >>> (sI s).toUInt32).toInt32) i = bI' x (s + i) := by
  show ((x.toUInt32 >>> (sI s).toUInt32).toInt32).toBitVec.getLsbD i = _
  rw [shu32 x h, BitVec.getLsbD_ushiftRight]
set_option maxRecDepth 20000 in
theorem b_shr64 (x : Int64) {s : Nat} (h : s < 64) {i : Nat} (hi : i < 64) : bL (x >>> sL s) i = if s + i < 64 then bL x (s + i) else bL x 63 := by
  show (x >>> sL s).toBitVec.getLsbD i = _
  rw [shr64 x h, BitVec.getLsbD_sshiftRight, decide_eq_false (show ¬ 64 ≤ i by omega), Bool.not_false, Bool.true_and, BitVec.msb_eq_getLsbD_last]
set_option maxRecDepth 20000 in
theorem b_shr32 (x : Int32) {s : Nat} (h : s < 32) {i : Nat} (hi : i < 32) : bI' (x >>> sI s) i = if s + i < 32 then bI' x (s + i) else bI' x 31 := by
  show (x >>> sI s).toBitVec.getLsbD i = _
  rw [shr32 x h, BitVec.getLsbD_sshiftRight, decide_eq_false (show ¬ 32 ≤ i by omega), Bool.not_false, Bool.true_and, BitVec.msb_eq_getLsbD_last]
set_option maxRecDepth 20000 in
theorem b_orL (a b : Int64) (i : Nat) : bL (a ||| b) i = (bL a i || bL b i) := by
  show (a ||| b).toBitVec.getLsbD i = _
  rw [Int64.toBitVec_or, BitVec.getLsbD_or]
set_option maxRecDepth 20000 in
theorem b_orI (a b : Int32) (i : Nat) : bI' (a ||| b) i = (bI' a i || bI' b i) := by
  show (a ||| b).toBitVec.getLsbD i = _
  rw [Int32.toBitVec_or, BitVec.getLsbD_or]
/-! an unsigned order -/
set_option maxRecDepth 20000 in
theorem xmin_n {x : Nat} (h : x < 2 ^ 64) : x ^^^ 2 ^ 63 = (x + 2 ^ 63) % 2 ^ 64 := by
  have k : ∀ y : Nat, y < 2 ^ 63 → y ^^^ 2 ^ 63 = 2 ^ 63 + y := fun y hy => by
    apply Nat.eq_of_testBit_eq
    intro i
    have e := Nat.testBit_two_pow_mul_add 1 hy i
    rw [Nat.mul_one] at e
    rw [e, Nat.testBit_xor, Nat.testBit_two_pow]
    by_cases c : i < 63
    · rw [if_pos c, decide_eq_false (show ¬ 63 = i by omega), Bool.xor_false]
    · rw [if_neg c, Nat.testBit_lt_two_pow (show y < 2 ^ i from Nat.lt_of_lt_of_le hy (Nat.pow_le_pow_right (by decide) (by omega))), Bool.false_xor]
      by_cases c2 : 63 = i
      · rw [← c2]; rfl
      · rw [decide_eq_false c2]
        obtain ⟨q, rfl⟩ : ∃ q, i = 64 + q := ⟨i - 64, by omega⟩
        rw [show 64 + q - 63 = q + 1 by omega, Nat.testBit_succ, show 1 / 2 = 0 from rfl, Nat.zero_testBit]
  by_cases c : x < 2 ^ 63
  · rw [k x c, Nat.mod_eq_of_lt (by omega), Nat.add_comm]
  · obtain ⟨y, rfl⟩ : ∃ y, x = 2 ^ 63 + y := ⟨x - 2 ^ 63, by omega⟩
    rw [← k y (by omega), Nat.xor_assoc, Nat.xor_self, Nat.xor_zero, k y (by omega)]
    omega
set_option maxRecDepth 20000 in
theorem xmin (x : Int64) : x ^^^ lMin = x + lMin := by
  apply uL_inj
  rw [uL_xor, uL_add, show uL lMin = 2 ^ 63 by decide]
  exact xmin_n (uL_lt x)
set_option maxRecDepth 20000 in
theorem ult_add (a b : Int64) : (a + lMin).toInt < (b + lMin).toInt ↔ uL a < uL b := by
  have ha := uL_lt a
  have hb := uL_lt b
  rw [uL_ofInt, uL_ofInt, uL_add, uL_add, show uL lMin = 2 ^ 63 by decide]
  split <;> split <;> omega
set_option maxRecDepth 20000 in
theorem below (a b : Int64) : f_Ar_isBelow a b = .ret (decide (uL a < uL b)) := by
  unfold f_Ar_isBelow
  simp only [jp]
  rw [xmin, xmin]
  have h := ult_add a b
  by_cases c : uL a < uL b
  · rw [if_neg (show ¬ (b + lMin).toInt ≤ (a + lMin).toInt by have := h.mpr c; omega), decide_eq_true c]
  · rw [if_pos (show (b + lMin).toInt ≤ (a + lMin).toInt by have := fun q => c (h.mp q); omega), decide_eq_false c]
