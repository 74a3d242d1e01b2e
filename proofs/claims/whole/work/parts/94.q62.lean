/-! RUN: stores -/
set_option maxRecDepth 20000 in
theorem sh8_b (v : BitVec 64) (k : Nat) (hk : k ≤ 56) : ((v.sshiftRight k).setWidth 32).setWidth 8 = ((v >>> k).setWidth 32).setWidth 8 := by
  apply BitVec.eq_of_getLsbD_eq
  intro i hi
  rw [BitVec.getLsbD_setWidth, BitVec.getLsbD_setWidth, BitVec.getLsbD_setWidth, BitVec.getLsbD_setWidth, BitVec.getLsbD_sshiftRight, BitVec.getLsbD_ushiftRight]
  have h1 : ¬ 64 ≤ i := by omega
  have h2 : k + i < 64 := by omega
  simp only [h1, h2, decide_false, Bool.not_false, Bool.true_and, if_true]
