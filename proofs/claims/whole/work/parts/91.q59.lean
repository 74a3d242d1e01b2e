/-! RUN: loads -/
set_option maxRecDepth 20000 in
theorem byt (x : Int32) : (iI (by8 x)).toInt64 = x.toInt64 &&& 255 := by
  unfold by8
  rw [show iI ((x &&& 255).toInt) = x &&& 255 from Int32.ofInt_toInt _, Int32.toInt64_and]
  rfl
set_option maxRecDepth 20000 in
theorem adr {a : Int64} {A k : Nat} (hA : a.toInt = A) (hk : A + k < 131072) : (a.toInt32 + iI (k : Int)).toInt = ((A + k : Nat) : Int) ∧ a.toInt32.toInt = (A : Int) := by
  have h1 : a.toInt32.toInt = (A : Int) := by rw [v32 (by omega) (by omega), hA]
  refine ⟨?_, h1⟩
  rw [Int32.toInt_add, h1, iI_t (by omega), Int.bmod_eq_of_le (by omega) (by omega)]
  omega
section LDL
variable {fu : Nat} {mb : KMb} {my : KMy} {a : Int64} {A : Nat} {x27 : KRf × KMc × Int64} {x33 : KRs × Int64}
set_option maxRecDepth 20000 in
theorem ld_loop (hA : a.toInt = A) (hx : (x33.2 &&& 4294967295) + x27.2.2 = a) (hm : ∀ k, k < 131072 → mb.bytes k = my.memory k) : ∀ (j n1 n2 : Nat) (v : Int64), A + j ≤ 131072 → j < n1 → j < n2 → ∃ w, L26_Ma_load fu mb a n1 v ((j : Int) - 1) = .ret (w, -1) ∧ L281_Mo_memoryStep fu my x27 x33 n2 v ((j : Int) - 1) = .ret (w, -1) ∧ (j = 1 → v = 0 → w = (my.memory A).toInt64 &&& 255) := by
  intro j
  induction j with
  | zero =>
    intro n1 n2 v hj h1 h2
    obtain ⟨n1, rfl⟩ : ∃ q, n1 = q + 1 := ⟨n1 - 1, by omega⟩
    obtain ⟨n2, rfl⟩ : ∃ q, n2 = q + 1 := ⟨n2 - 1, by omega⟩
    exact ⟨v, by rw [L26_Ma_load.eq_2, if_pos (by decide)]; rfl, by rw [L281_Mo_memoryStep.eq_2, if_pos (by decide)]; rfl, fun q => absurd q (by decide)⟩
  | succ j ih =>
    intro n1 n2 v hj h1 h2
    obtain ⟨n1, rfl⟩ : ∃ q, n1 = q + 1 := ⟨n1 - 1, by omega⟩
    obtain ⟨n2, rfl⟩ : ∃ q, n2 = q + 1 := ⟨n2 - 1, by omega⟩
    have ek : ((j + 1 : Nat) : Int) - 1 = (j : Int) := by omega
    obtain ⟨b1, b2⟩ := adr (k := j) hA (by omega)
    obtain ⟨w, w1, w2, w3⟩ := ih n1 n2 ((v <<< ((iI 8).toInt64 &&& 63)) ||| ((my.memory (A + j)).toInt64 &&& 255)) (by omega) (by omega) (by omega)
    refine ⟨w, ?_, ?_, fun q1 q2 => ?_⟩
    · rw [L26_Ma_load.eq_2, ek, if_neg (by omega), b1, if_pos (by omega), if_pos (by omega), Int.toNat_natCast, hm _ (by omega), byt, show (j : Int) + (-1) = (j : Int) - 1 from rfl]
      exact w1
    · rw [L281_Mo_memoryStep.eq_2, ek, if_neg (by omega), hx, b2, show (A : Int) + (j : Int) = ((A + j : Nat) : Int) by omega, if_pos (by omega), if_pos (by omega), if_pos (by omega), Int.toNat_natCast, show (j : Int) + (-1) = (j : Int) - 1 from rfl]
      exact w2
    · have hj0 : j = 0 := by omega
      subst hj0 q2
      obtain ⟨n1, rfl⟩ : ∃ q, n1 = q + 1 := ⟨n1 - 1, by omega⟩
      rw [L26_Ma_load.eq_2, if_pos (by decide)] at w1
      have h9 := congrArg (fun o : Out Empty (Int64 × Int) => o) w1
      have h10 : ((0 : Int64) <<< ((iI 8).toInt64 &&& 63)) ||| ((my.memory (A + 0)).toInt64 &&& 255) = w := by
        cases w1; rfl
      rw [← h10, Int64.zero_shiftLeft, Int64.zero_or]
      rfl
end LDL
