set_option maxRecDepth 20000 in
theorem sh8_1 : ∀ k : Fin 8, ((((iI (8 * (k.val : Int))).toInt64 &&& 63).toBitVec.smod 64).toNat) = 8 * k.val := by decide +kernel
set_option maxRecDepth 20000 in
theorem sh8_2 : ∀ k : Fin 8, ((((iI (8 * (k.val : Int))).toInt64.toUInt64 &&& Int64.toUInt64 63).toBitVec % 64).toNat) = 8 * k.val := by decide +kernel
set_option maxRecDepth 20000 in
/-- the byte that a store writes -/
theorem sh8 (v : Int64) (k : Fin 8) : ((v >>> ((iI (8 * (k.val : Int))).toInt64 &&& 63)).toInt32).toInt8.toInt32 = (((v.toUInt64 >>> ((iI (8 * (k.val : Int))).toInt64.toUInt64 &&& Int64.toUInt64 63)).toInt64).toInt32).toInt8.toInt32 := by
  have e1 := sh8_1 k
  have e2 := sh8_2 k
  generalize (iI (8 * (k.val : Int))).toInt64 &&& 63 = s1 at e1
  generalize (iI (8 * (k.val : Int))).toInt64.toUInt64 &&& Int64.toUInt64 63 = s2 at e2
  refine congrArg Int8.toInt32 (Int8.toBitVec_inj.mp ?_)
  rw [Int32.toBitVec_toInt8, Int32.toBitVec_toInt8, Int64.toBitVec_toInt32, Int64.toBitVec_toInt32, Int64.toBitVec_shiftRight, BitVec.sshiftRight_eq', e1, UInt64.toBitVec_toInt64, UInt64.toBitVec_shiftRight, BitVec.ushiftRight_eq', e2, Int64.toBitVec_toUInt64]
  simp only [BitVec.signExtend_eq_setWidth_of_le _ (show 32 ≤ 64 by decide), BitVec.signExtend_eq_setWidth_of_le _ (show 8 ≤ 32 by decide)]
  exact sh8_b _ (8 * k.val) (by omega)
section STL
variable {fu : Nat} {a val : Int64} {A wd : Nat} {x27 : KRf × KMc × Int64} {x33 y31 : KRs × Int64}
set_option maxRecDepth 20000 in
theorem st_loop (hA : a.toInt = A) (hx : (x33.2 &&& 4294967295) + x27.2.2 = a) (hy : y31.2 = val) (hw : wd ≤ 8) (hin : A + wd ≤ 131072) : ∀ (j k n1 n2 : Nat) (mb : KMb) (my : KMy), k + j = wd → j < n1 → j < n2 → (∀ q, q < 131072 → mb.bytes q = my.memory q ∧ -128 ≤ (my.memory q).toInt ∧ (my.memory q).toInt ≤ 127) → ∃ (mb' : KMb) (my' : KMy), L25_Ma_store fu a val wd n1 mb k = .ret (mb', (wd : Int)) ∧ L241_Mo_memoryStep fu x27 wd y31 x33 n2 my k = .ret (my', (wd : Int)) ∧ ∀ q, q < 131072 → mb'.bytes q = my'.memory q ∧ -128 ≤ (my'.memory q).toInt ∧ (my'.memory q).toInt ≤ 127 := by
  intro j
  induction j with
  | zero =>
    intro k n1 n2 mb my hk h1 h2 hm
    obtain ⟨n1, rfl⟩ : ∃ q, n1 = q + 1 := ⟨n1 - 1, by omega⟩
    obtain ⟨n2, rfl⟩ : ∃ q, n2 = q + 1 := ⟨n2 - 1, by omega⟩
    have : k = wd := by omega
    subst this
    exact ⟨mb, my, by rw [L25_Ma_store.eq_2, if_pos (by omega)], by rw [L241_Mo_memoryStep.eq_2, if_pos (by omega)], hm⟩
  | succ j ih =>
    intro k n1 n2 mb my hk h1 h2 hm
    obtain ⟨n1, rfl⟩ : ∃ q, n1 = q + 1 := ⟨n1 - 1, by omega⟩
    obtain ⟨n2, rfl⟩ : ∃ q, n2 = q + 1 := ⟨n2 - 1, by omega⟩
    obtain ⟨b1, b2⟩ := adr (k := k) hA (by omega)
    have hs := sh8 val ⟨k, by omega⟩
    rw [L25_Ma_store.eq_2, if_neg (by omega), if_pos (by omega), b1, if_pos (by omega), if_pos (by omega), Int.toNat_natCast]
    rw [L241_Mo_memoryStep.eq_2, if_neg (by omega), hx, b2, show (A : Int) + (k : Int) = ((A + k : Nat) : Int) by omega, if_pos (by omega), if_pos (by omega), if_pos (by omega), if_pos (by omega), Int.toNat_natCast, hy, ← hs, show (k : Int) + 1 = ((k + 1 : Nat) : Int) by omega]
    refine ih (k + 1) n1 n2 _ _ (by omega) (by omega) (by omega) (fun q hq => ?_)
    generalize ((val >>> ((iI (8 * (k : Int))).toInt64 &&& 63)).toInt32).toInt8 = B
    show upd mb.bytes (A + k) B.toInt32 q = upd my.memory (A + k) B.toInt32 q ∧ -128 ≤ (upd my.memory (A + k) B.toInt32 q).toInt ∧ (upd my.memory (A + k) B.toInt32 q).toInt ≤ 127
    by_cases c : q = A + k
    · rw [c, show ∀ f : Nat → Int32, upd f (A + k) B.toInt32 (A + k) = B.toInt32 from fun f => if_pos rfl, show upd my.memory (A + k) B.toInt32 (A + k) = B.toInt32 from if_pos rfl, Int8.toInt_toInt32]
      have h3 := Int8.le_toInt B
      have h4 := Int8.toInt_lt B
      exact ⟨rfl, by omega, by omega⟩
    · rw [show upd mb.bytes (A + k) B.toInt32 q = mb.bytes q from if_neg c, show upd my.memory (A + k) B.toInt32 q = my.memory q from if_neg c]
      exact hm q hq
end STL
