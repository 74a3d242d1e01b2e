/-! RUN: numbers: zeros before, zeros behind, ones -/
set_option maxRecDepth 20000 in
theorem tz_ex (f : Nat → Bool) : ∀ n : Nat, ∃ t, t ≤ n ∧ (∀ i, i < t → f i = false) ∧ (t = n ∨ f t = true)
  | 0 => ⟨0, Nat.le_refl 0, fun i hi => absurd hi (by omega), Or.inl rfl⟩
  | n + 1 => by
    obtain ⟨t, h1, h2, h3⟩ := tz_ex f n
    by_cases c : t = n
    · subst c
      cases e : f t with
      | true => exact ⟨t, by omega, h2, Or.inr e⟩
      | false =>
        refine ⟨t + 1, by omega, fun i hi => ?_, Or.inl rfl⟩
        by_cases q : i = t
        · rw [q]; exact e
        · exact h2 i (by omega)
    · exact ⟨t, by omega, h2, Or.inr (h3.resolve_left c)⟩
set_option maxRecDepth 20000 in
theorem lz_ex (f : Nat → Bool) : ∀ n : Nat, ∃ L, L ≤ n ∧ (∀ i, L ≤ i → i < n → f i = false) ∧ (L = 0 ∨ f (L - 1) = true)
  | 0 => ⟨0, Nat.le_refl 0, fun i _ hi => absurd hi (by omega), Or.inl rfl⟩
  | n + 1 => by
    cases e : f n with
    | true => exact ⟨n + 1, Nat.le_refl _, fun i h1 h2 => absurd h1 (by omega), Or.inr e⟩
    | false =>
      obtain ⟨L, h1, h2, h3⟩ := lz_ex f n
      refine ⟨L, by omega, fun i h4 h5 => ?_, h3⟩
      by_cases q : i = n
      · rw [q]; exact e
      · exact h2 i h4 (by omega)
set_option maxRecDepth 20000 in
theorem tz_bits {W a t : Nat} (ha : a < 2 ^ W) (h1 : ∀ i, i < t → a.testBit i = false) (h2 : t = W ∨ (t < W ∧ a.testBit t = true)) {i : Nat} (hi : i < W) : ((a ^^^ (2 ^ W - 1)) &&& ((2 ^ W - 1 + a) % 2 ^ W)).testBit i = decide (i < t) := by
  have hW : 0 < 2 ^ W := Nat.two_pow_pos W
  rw [Nat.testBit_and, Nat.testBit_xor, Nat.testBit_two_pow_sub_one, decide_eq_true hi, Bool.xor_true]
  rcases h2 with h2 | ⟨h2, h3⟩
  · subst h2
    have : a = 0 := by
      apply Nat.eq_of_testBit_eq
      intro j
      rw [Nat.zero_testBit]
      by_cases c : j < t
      · exact h1 j c
      · exact Nat.testBit_lt_two_pow (Nat.lt_of_lt_of_le ha (Nat.pow_le_pow_right (by decide) (by omega)))
    subst this
    rw [Nat.add_zero, Nat.mod_eq_of_lt (by omega), Nat.testBit_two_pow_sub_one, Nat.zero_testBit, Bool.not_false, Bool.true_and]
  · have hm : a % 2 ^ t = 0 := by
      apply Nat.eq_of_testBit_eq
      intro j
      rw [Nat.testBit_mod_two_pow, Nat.zero_testBit]
      by_cases c : j < t
      · rw [h1 j c, Bool.and_false]
      · rw [decide_eq_false c, Bool.false_and]
    have hq : a / 2 ^ t % 2 = 1 := by
      rw [Nat.testBit_eq_decide_div_mod_eq] at h3
      exact of_decide_eq_true h3
    have ht : 0 < 2 ^ t := Nat.two_pow_pos t
    have hd := Nat.div_add_mod a (2 ^ t)
    rw [hm, Nat.add_zero] at hd
    obtain ⟨m, hm2⟩ : ∃ m, a / 2 ^ t = 2 * m + 1 := ⟨a / 2 ^ t / 2, by omega⟩
    rw [hm2] at hd
    have e1 : a - 1 = 2 ^ t * (2 * m) + (2 ^ t - 1) := by
      rw [Nat.mul_add, Nat.mul_one] at hd
      omega
    have ha0 : 0 < a := by
      rw [← hd]; exact Nat.mul_pos ht (by omega)
    rw [show (2 ^ W - 1 + a) % 2 ^ W = a - 1 by rw [show 2 ^ W - 1 + a = a - 1 + 2 ^ W by omega, Nat.add_mod_right, Nat.mod_eq_of_lt (by omega)], e1, Nat.testBit_two_pow_mul_add _ (by omega)]
    by_cases c : i < t
    · rw [if_pos c, h1 i c, Nat.testBit_two_pow_sub_one, Bool.not_false, Bool.true_and]
    · rw [if_neg c, decide_eq_false c]
      by_cases c2 : i = t
      · rw [c2, h3, Bool.not_true, Bool.false_and]
      · have e2 : a.testBit i = (2 * m + 1).testBit (i - t) := by
          have k := Nat.testBit_two_pow_mul_add (2 * m + 1) ht i
          rw [Nat.add_zero, hd, if_neg c] at k
          exact k
        obtain ⟨j, hj⟩ : ∃ j, i - t = j + 1 := ⟨i - t - 1, by omega⟩
        rw [e2, hj, Nat.testBit_succ, Nat.testBit_succ, show (2 * m + 1) / 2 = m by omega, show 2 * m / 2 = m by omega, Bool.not_and_self]
set_option maxRecDepth 20000 in
theorem xor_bits {W a i : Nat} (hi : i < W) : (a ^^^ (2 ^ W - 1)).testBit i = !a.testBit i := by
  rw [Nat.testBit_xor, Nat.testBit_two_pow_sub_one, decide_eq_true hi, Bool.xor_true]
/-! the bits one by one -/
set_option maxRecDepth 20000 in
theorem amt32 {i : Nat} (h : i < 32) : (iI (i : Int)) &&& 31 = sI i := by
  rw [and31, iI_int, uI_sI (by omega), Nat.mod_eq_of_lt h]
set_option maxRecDepth 20000 in
theorem amt64 {i : Nat} (h : i < 64) : (iI (i : Int)).toInt64 &&& 63 = sL i := by
  rw [and63, iI_int, sI_j h, Nat.mod_eq_of_lt h]
set_option maxRecDepth 20000 in
theorem bit1_32 (v : Int32) {i : Nat} (h : i < 32) : (v >>> ((iI (i : Int)) &&& 31)) &&& iI 1 = if (uI v).testBit i = true then iI 1 else iI 0 := by
  have hb := b_shr32 v h (i := 0) (by decide)
  rw [if_pos (by omega)] at hb
  have hb' : (uI (v >>> sI i)).testBit 0 = (uI v).testBit i := hb
  rw [Nat.testBit_zero] at hb'
  apply uI_inj
  rw [amt32 h, uI_and, show uI (iI 1) = 1 by decide, Nat.and_one_is_mod]
  cases q : (uI v).testBit i with
  | true =>
    rw [q] at hb'
    rw [if_pos rfl, show uI (iI 1) = 1 by decide]
    exact of_decide_eq_true hb'
  | false =>
    rw [q] at hb'
    rw [if_neg Bool.false_ne_true, show uI (iI 0) = 0 by decide]
    have := of_decide_eq_false hb'
    omega
set_option maxRecDepth 20000 in
theorem bit1_64 (v : Int64) {i : Nat} (h : i < 64) : (v >>> ((iI (i : Int)).toInt64 &&& 63)) &&& 1 = if (uL v).testBit i = true then 1 else 0 := by
  have hb := b_shr64 v h (i := 0) (by decide)
  rw [if_pos (by omega)] at hb
  have hb' : (uL (v >>> sL i)).testBit 0 = (uL v).testBit i := hb
  rw [Nat.testBit_zero] at hb'
  apply uL_inj
  rw [amt64 h, uL_and, show uL 1 = 1 by decide, Nat.and_one_is_mod]
  cases q : (uL v).testBit i with
  | true =>
    rw [q] at hb'
    rw [if_pos rfl, show uL 1 = 1 by decide]
    exact of_decide_eq_true hb'
  | false =>
    rw [q] at hb'
    rw [if_neg Bool.false_ne_true, show uL 0 = 0 by decide]
    have := of_decide_eq_false hb'
    omega
set_option maxRecDepth 20000 in
theorem neg_b32 (x : Int32) : x.toInt < 0 ↔ (uI x).testBit 31 = true := by
  have h := uI_lt x
  rw [uI_ofInt, Nat.testBit_eq_decide_div_mod_eq, decide_eq_true_eq]
  split <;> omega
set_option maxRecDepth 20000 in
theorem neg_b64 (x : Int64) : x.toInt < (0 : Int64).toInt ↔ (uL x).testBit 63 = true := by
  have h := uL_lt x
  rw [show (0 : Int64).toInt = 0 by decide, uL_ofInt, Nat.testBit_eq_decide_div_mod_eq, decide_eq_true_eq]
  split <;> omega
set_option maxRecDepth 20000 in
theorem neg32 (v : Int32) {i : Nat} (h : i < 32) : (v <<< ((iI (i : Int)) &&& 31)).toInt < 0 ↔ (uI v).testBit (31 - i) = true := by
  rw [neg_b32, amt32 h, show (uI (v <<< sI i)).testBit 31 = _ from b_shl32 v h (i := 31) (by decide), decide_eq_false (show ¬ 31 < i by omega), Bool.not_false, Bool.true_and]
  exact Iff.rfl
set_option maxRecDepth 20000 in
theorem neg64 (v : Int64) {i : Nat} (h : i < 64) : (v <<< ((iI (i : Int)).toInt64 &&& 63)).toInt < (0 : Int64).toInt ↔ (uL v).testBit (63 - i) = true := by
  rw [neg_b64, amt64 h, show (uL (v <<< sL i)).testBit 63 = _ from b_shl64 v h (i := 63) (by decide), decide_eq_false (show ¬ 63 < i by omega), Bool.not_false, Bool.true_and]
  exact Iff.rfl
/-! the reference's loops -/
section CNL
variable {fu : Nat}
set_option maxRecDepth 20000 in
theorem l54 {v : Int32} : ∀ (j i n : Nat), i + j = 32 → j < n → L54_Mo_counted32 fu v n ((pcf (uI v).testBit i : Nat) : Int) i = .ret (((pcf (uI v).testBit 32 : Nat) : Int), 32) := by
  intro j
  induction j with
  | zero =>
    intro i n hi hn
    obtain ⟨n, rfl⟩ : ∃ q, n = q + 1 := ⟨n - 1, by omega⟩
    have : i = 32 := by omega
    subst this
    rw [L54_Mo_counted32.eq_2, if_pos (by decide)]
    rfl
  | succ j ih =>
    intro i n hi hn
    obtain ⟨n, rfl⟩ : ∃ q, n = q + 1 := ⟨n - 1, by omega⟩
    have e : (iI ((pcf (uI v).testBit i : Nat) : Int) + (if (uI v).testBit i = true then iI 1 else iI 0)).toInt = ((pcf (uI v).testBit (i + 1) : Nat) : Int) := by
      have hp := pcf_le (uI v).testBit i
      show _ = ((pcf (uI v).testBit i + (if (uI v).testBit i = true then 1 else 0) : Nat) : Int)
      by_cases c : (uI v).testBit i = true
      · rw [if_pos c, if_pos c, iI_add, iI_t (by omega)]; omega
      · rw [if_neg c, if_neg c, iI_add, iI_t (by omega)]; omega
    rw [L54_Mo_counted32.eq_2, if_neg (by omega), if_pos (by omega), bit1_32 v (by omega), e, show (i : Int) + 1 = ((i + 1 : Nat) : Int) by omega]
    exact ih (i + 1) n (by omega) (by omega)
set_option maxRecDepth 20000 in
theorem l59 {v : Int64} : ∀ (j i n : Nat), i + j = 64 → j < n → L59_Mo_counted64 fu v n ((pcf (uL v).testBit i : Nat) : Int) i = .ret (((pcf (uL v).testBit 64 : Nat) : Int), 64) := by
  intro j
  induction j with
  | zero =>
    intro i n hi hn
    obtain ⟨n, rfl⟩ : ∃ q, n = q + 1 := ⟨n - 1, by omega⟩
    have : i = 64 := by omega
    subst this
    rw [L59_Mo_counted64.eq_2, if_pos (by decide)]
    rfl
  | succ j ih =>
    intro i n hi hn
    obtain ⟨n, rfl⟩ : ∃ q, n = q + 1 := ⟨n - 1, by omega⟩
    have e : (iI ((pcf (uL v).testBit i : Nat) : Int) + (if (uL v).testBit i = true then (1 : Int64) else 0).toInt32).toInt = ((pcf (uL v).testBit (i + 1) : Nat) : Int) := by
      have hp := pcf_le (uL v).testBit i
      show _ = ((pcf (uL v).testBit i + (if (uL v).testBit i = true then 1 else 0) : Nat) : Int)
      by_cases c : (uL v).testBit i = true
      · rw [if_pos c, if_pos c, show (1 : Int64).toInt32 = iI 1 by decide, iI_add, iI_t (by omega)]; omega
      · rw [if_neg c, if_neg c, show (0 : Int64).toInt32 = iI 0 by decide, iI_add, iI_t (by omega)]; omega
    rw [L59_Mo_counted64.eq_2, if_neg (by omega), if_pos (by omega), bit1_64 v (by omega), e, show (i : Int) + 1 = ((i + 1 : Nat) : Int) by omega]
    exact ih (i + 1) n (by omega) (by omega)
set_option maxRecDepth 20000 in
theorem l32 {v : Int32} {t : Nat} (ht : t ≤ 32) (h1 : ∀ i, i < t → (uI v).testBit i = false) (h2 : t = 32 ∨ (uI v).testBit t = true) : ∀ (j i n : Nat), i + j = t → j < n → L32_Mo_counted32 fu v n i = .ret (t : Int) := by
  intro j
  induction j with
  | zero =>
    intro i n hi hn
    obtain ⟨n, rfl⟩ : ∃ q, n = q + 1 := ⟨n - 1, by omega⟩
    have : i = t := by omega
    subst this
    by_cases c : i = 32
    · rw [L32_Mo_counted32.eq_2, if_pos (by omega)]
    · rw [L32_Mo_counted32.eq_2, if_neg (by omega), bit1_32 v (by omega), if_pos (h2.resolve_left c), if_neg (by decide)]
  | succ j ih =>
    intro i n hi hn
    obtain ⟨n, rfl⟩ : ∃ q, n = q + 1 := ⟨n - 1, by omega⟩
    rw [L32_Mo_counted32.eq_2, if_neg (by omega), bit1_32 v (by omega), h1 i (by omega), if_neg Bool.false_ne_true, if_pos (by decide), if_pos (by omega), show (i : Int) + 1 = ((i + 1 : Nat) : Int) by omega]
    exact ih (i + 1) n (by omega) (by omega)
set_option maxRecDepth 20000 in
theorem l34 {v : Int64} {t : Nat} (ht : t ≤ 64) (h1 : ∀ i, i < t → (uL v).testBit i = false) (h2 : t = 64 ∨ (uL v).testBit t = true) : ∀ (j i n : Nat), i + j = t → j < n → L34_Mo_counted64 fu v n i = .ret (t : Int) := by
  intro j
  induction j with
  | zero =>
    intro i n hi hn
    obtain ⟨n, rfl⟩ : ∃ q, n = q + 1 := ⟨n - 1, by omega⟩
    have : i = t := by omega
    subst this
    by_cases c : i = 64
    · rw [L34_Mo_counted64.eq_2, if_pos (by omega)]
    · rw [L34_Mo_counted64.eq_2, if_neg (by omega), bit1_64 v (by omega), if_pos (h2.resolve_left c), if_neg (by decide)]
  | succ j ih =>
    intro i n hi hn
    obtain ⟨n, rfl⟩ : ∃ q, n = q + 1 := ⟨n - 1, by omega⟩
    rw [L34_Mo_counted64.eq_2, if_neg (by omega), bit1_64 v (by omega), h1 i (by omega), if_neg Bool.false_ne_true, if_pos (by decide), if_pos (by omega), show (i : Int) + 1 = ((i + 1 : Nat) : Int) by omega]
    exact ih (i + 1) n (by omega) (by omega)
set_option maxRecDepth 20000 in
theorem l8_32 {v : Int32} {L : Nat} (hL : L ≤ 32) (h1 : ∀ i, L ≤ i → i < 32 → (uI v).testBit i = false) (h2 : L = 0 ∨ (uI v).testBit (L - 1) = true) : ∀ (j i n : Nat), i + j = 32 - L → j < n → L8_Mo_counted32 fu v n i = .ret ((32 - L : Nat) : Int) := by
  intro j
  induction j with
  | zero =>
    intro i n hi hn
    obtain ⟨n, rfl⟩ : ∃ q, n = q + 1 := ⟨n - 1, by omega⟩
    have : i = 32 - L := by omega
    subst this
    by_cases c : L = 0
    · rw [L8_Mo_counted32.eq_2, if_pos (by omega)]
    · rw [L8_Mo_counted32.eq_2, if_neg (by omega), if_pos ((neg32 v (by omega)).mpr (by rw [show 31 - (32 - L) = L - 1 by omega]; exact h2.resolve_left c))]
  | succ j ih =>
    intro i n hi hn
    obtain ⟨n, rfl⟩ : ∃ q, n = q + 1 := ⟨n - 1, by omega⟩
    rw [L8_Mo_counted32.eq_2, if_neg (by omega), if_neg (fun q => by
      have := (neg32 v (by omega)).mp q
      rw [h1 (31 - i) (by omega) (by omega)] at this
      exact Bool.false_ne_true this), if_pos (by omega), show (i : Int) + 1 = ((i + 1 : Nat) : Int) by omega]
    exact ih (i + 1) n (by omega) (by omega)
set_option maxRecDepth 20000 in
theorem l8_64 {v : Int64} {L : Nat} (hL : L ≤ 64) (h1 : ∀ i, L ≤ i → i < 64 → (uL v).testBit i = false) (h2 : L = 0 ∨ (uL v).testBit (L - 1) = true) : ∀ (j i n : Nat), i + j = 64 - L → j < n → L8_Mo_counted64 fu v n i = .ret ((64 - L : Nat) : Int) := by
  intro j
  induction j with
  | zero =>
    intro i n hi hn
    obtain ⟨n, rfl⟩ : ∃ q, n = q + 1 := ⟨n - 1, by omega⟩
    have : i = 64 - L := by omega
    subst this
    by_cases c : L = 0
    · rw [L8_Mo_counted64.eq_2, if_pos (by omega)]
    · rw [L8_Mo_counted64.eq_2, if_neg (by omega), if_pos ((neg64 v (by omega)).mpr (by rw [show 63 - (64 - L) = L - 1 by omega]; exact h2.resolve_left c))]
  | succ j ih =>
    intro i n hi hn
    obtain ⟨n, rfl⟩ : ∃ q, n = q + 1 := ⟨n - 1, by omega⟩
    rw [L8_Mo_counted64.eq_2, if_neg (by omega), if_neg (fun q => by
      have := (neg64 v (by omega)).mp q
      rw [h1 (63 - i) (by omega) (by omega)] at this
      exact Bool.false_ne_true this), if_pos (by omega), show (i : Int) + 1 = ((i + 1 : Nat) : Int) by omega]
    exact ih (i + 1) n (by omega) (by omega)
/-- the first w of the bits below L are there -/
def FP (L w : Nat) (r : Int64) : Prop := (∀ i, L ≤ i → i < 64 → bL r i = false) ∧ (∀ i, i < L → L ≤ i + w → bL r i = true)
set_option maxRecDepth 20000 in
theorem fl_loop {L : Nat} (hL : L ≤ 64) : ∀ (j n w : Nat) (r : Int64), w * 2 ^ j = 64 → 0 < w → j < n → FP L w r → ∃ r', L5_Ar_filled fu n r w = .ret (r', 64) ∧ FP L 64 r' := by
  intro j
  induction j with
  | zero =>
    intro n w r hw h0 hn hF
    obtain ⟨n, rfl⟩ : ∃ q, n = q + 1 := ⟨n - 1, by omega⟩
    have : w = 64 := by omega
    subst this
    exact ⟨r, by rw [L5_Ar_filled.eq_2, if_pos (by decide)]; rfl, hF⟩
  | succ j ih =>
    intro n w r hw h0 hn hF
    obtain ⟨n, rfl⟩ : ∃ q, n = q + 1 := ⟨n - 1, by omega⟩
    have hw2 : 2 * w * 2 ^ j = 64 := by rw [← hw, Nat.pow_succ, Nat.mul_comm 2 w, Nat.mul_assoc, Nat.mul_comm 2]
    have hw3 : 2 * w ≤ 2 * w * 2 ^ j := Nat.le_mul_of_pos_right _ (Nat.two_pow_pos j)
    have hs : (iI (w : Int)).toInt64.toUInt64 &&& Int64.toUInt64 63 = (sL w).toUInt64 := by
      rw [and63u, iI_int, sI_j (show w < 64 by omega), Nat.mod_eq_of_lt (show w < 64 by omega)]
    rw [L5_Ar_filled.eq_2, if_neg (by omega), if_pos (by omega), hs, show (w : Int) * 2 = ((2 * w : Nat) : Int) by omega]
    refine ih n (2 * w) _ hw2 (by omega) (by omega) ⟨fun i q1 q2 => ?_, fun i q1 q2 => ?_⟩
    · rw [b_orL, b_shu64 r (by omega), hF.1 i q1 q2, Bool.false_or]
      by_cases c : w + i < 64
      · exact hF.1 _ (by omega) c
      · exact BitVec.getLsbD_of_ge _ _ (by omega)
    · rw [b_orL, b_shu64 r (by omega)]
      by_cases c : L ≤ i + w
      · rw [hF.2 i q1 c, Bool.true_or]
      · rw [hF.2 (w + i) (by omega) (by omega), Bool.or_true]
set_option maxRecDepth 20000 in
theorem filled {L : Nat} {r : Int64} (hfu : 100 < fu) (hL : L ≤ 64) (hF : FP L 1 r) : ∃ r', f_Ar_filled fu r = .ret r' ∧ ∀ i, i < 64 → bL r' i = decide (i < L) := by
  obtain ⟨r', e1, e2⟩ := fl_loop (fu := fu) hL 6 fu 1 r (by decide) (by decide) (by omega) hF
  refine ⟨r', ?_, fun i hi => ?_⟩
  · unfold f_Ar_filled
    rw [show ((1 : Nat) : Int) = 1 from rfl] at e1
    rw [e1, obind_ret]
  · by_cases c : i < L
    · rw [e2.2 i c (by omega), decide_eq_true c]
    · rw [e2.1 i (by omega) hi, decide_eq_false c]
/-! both -/
set_option maxRecDepth 20000 in
theorem cnt32 (hfu : 100 < fu) {k : Int} (hk : k = 103 ∨ k = 104 ∨ k = 105) (v : Int32) : ∃ c : Nat, c ≤ 32 ∧ f_Ar_countInt fu k v = .ret (sI c) ∧ f_Mo_counted32 fu k v = .ret ((sI c).toInt64) := by
  unfold f_Ar_countInt f_Mo_counted32
  simp only [jp]
  have hv := uI_lt v
  rcases hk with hk | hk | hk <;> subst hk <;> simp only [Int.reduceEq, reduceIte]
  · obtain ⟨L, h1, h2, h3⟩ := lz_ex (uI v).testBit 32
    have hF : ∃ L', L' ≤ 64 ∧ (∀ i, i < 32 → decide (i < L') = decide (i < L)) ∧ FP L' 1 v.toInt64 := by
      by_cases c : L = 32
      · subst c
        refine ⟨64, Nat.le_refl 64, fun i hi => by rw [decide_eq_true (show i < 64 by omega), decide_eq_true hi], fun i q1 q2 => absurd q1 (by omega), fun i q1 q2 => ?_⟩
        rw [b_wide v q1, if_neg (by omega)]
        exact h3.resolve_left (by decide)
      · refine ⟨L, by omega, fun i hi => rfl, fun i q1 q2 => ?_, fun i q1 q2 => ?_⟩
        · rw [b_wide v q2]
          split
          · exact h2 i q1 (by omega)
          · exact h2 31 (by omega) (by decide)
        · rw [b_wide v (by omega), if_pos (by omega), show i = L - 1 by omega]
          exact h3.resolve_left (by omega)
    obtain ⟨L', f1, f2, f3⟩ := hF
    obtain ⟨r', g1, g2⟩ := filled hfu f1 f3
    refine ⟨32 - L, by omega, ?_, ?_⟩
    · rw [g1, obind_ret, bc32, obind_ret]
      refine congrArg _ (congrArg _ ?_)
      rw [← pcf_ge L 32]
      refine pcf_cg fun i hi => ?_
      rw [uI_xor, show uI (iI (-1)) = 2 ^ 32 - 1 by decide, xor_bits hi, ← f2 i hi, ← g2 i (by omega), ← b_low r' hi]
      rfl
    · have k := l8_32 (fu := fu) h1 h2 h3 (32 - L) 0 fu (by omega) (by omega)
      rw [show ((0 : Nat) : Int) = 0 from rfl] at k
      rw [k, obind_ret]
      by_cases c : v.toInt = 0
      · have hz : uI v = 0 := by
          have := uI_ofInt (w := v)
          rw [c] at this
          split at this <;> omega
        have hL0 : L = 0 := by
          rcases h3 with h3 | h3
          · exact h3
          · rw [hz, Nat.zero_testBit] at h3; cases h3
        subst hL0
        rw [if_pos c]
        refine congrArg _ ?_
        decide
      · rw [if_neg c, iI_int]
  · obtain ⟨t, h1, h2, h3⟩ := tz_ex (uI v).testBit 32
    refine ⟨t, h1, ?_, ?_⟩
    · rw [bc32, obind_ret]
      refine congrArg _ (congrArg _ ?_)
      rw [show t = if 32 ≤ t then 32 else t by split <;> omega, ← pcf_lt t 32]
      refine pcf_cg fun i hi => ?_
      rw [uI_and, uI_xor, uI_sub, show uI (iI (-1)) = 2 ^ 32 - 1 by decide, show uI (iI 1) = 1 by decide]
      exact tz_bits hv h2 (by
        by_cases c : t = 32
        · exact Or.inl c
        · exact Or.inr ⟨by omega, h3.resolve_left c⟩) hi
    · have k := l32 (fu := fu) h1 h2 h3 t 0 fu (by omega) (by omega)
      rw [show ((0 : Nat) : Int) = 0 from rfl] at k
      rw [k, obind_ret, iI_int]
  · refine ⟨pcf (uI v).testBit 32, pcf_le _ 32, ?_, ?_⟩
    · rw [bc32, obind_ret]
    · have k := l54 (fu := fu) (v := v) 32 0 fu (by omega) (by omega)
      rw [show ((pcf (uI v).testBit 0 : Nat) : Int) = 0 from rfl, show ((0 : Nat) : Int) = 0 from rfl] at k
      rw [k, obind_ret]
      dsimp only
      rw [iI_int]
set_option maxRecDepth 20000 in
theorem cnt64 (hfu : 100 < fu) {k : Int} (hk : k = 103 ∨ k = 104 ∨ k = 105) (v : Int64) : ∃ c : Nat, c ≤ 64 ∧ f_Ar_countLong fu k v = .ret (sI c) ∧ f_Mo_counted64 fu k v = .ret ((sI c).toInt64) := by
  unfold f_Ar_countLong f_Mo_counted64
  simp only [jp]
  have hv := uL_lt v
  rcases hk with hk | hk | hk <;> subst hk <;> simp only [Int.reduceEq, reduceIte]
  · obtain ⟨L, h1, h2, h3⟩ := lz_ex (uL v).testBit 64
    have f3 : FP L 1 v := by
      refine ⟨fun i q1 q2 => h2 i q1 q2, fun i q1 q2 => ?_⟩
      rw [show i = L - 1 by omega]
      exact h3.resolve_left (by omega)
    obtain ⟨r', g1, g2⟩ := filled hfu h1 f3
    refine ⟨64 - L, by omega, ?_, ?_⟩
    · rw [g1, obind_ret, bc64, obind_ret]
      refine congrArg _ (congrArg _ ?_)
      rw [← pcf_ge L 64]
      refine pcf_cg fun i hi => ?_
      rw [uL_xor, show uL (-1) = 2 ^ 64 - 1 by decide, xor_bits hi, ← g2 i hi]
      rfl
    · have k := l8_64 (fu := fu) h1 h2 h3 (64 - L) 0 fu (by omega) (by omega)
      rw [show ((0 : Nat) : Int) = 0 from rfl] at k
      rw [k, obind_ret]
      by_cases c : v = 0
      · have hL0 : L = 0 := by
          rcases h3 with h3 | h3
          · exact h3
          · rw [c, show uL 0 = 0 by decide, Nat.zero_testBit] at h3; cases h3
        subst hL0
        rw [if_pos c]
        refine congrArg _ ?_
        decide
      · rw [if_neg c, iI_int]
  · obtain ⟨t, h1, h2, h3⟩ := tz_ex (uL v).testBit 64
    refine ⟨t, h1, ?_, ?_⟩
    · rw [bc64, obind_ret]
      refine congrArg _ (congrArg _ ?_)
      rw [show t = if 64 ≤ t then 64 else t by split <;> omega, ← pcf_lt t 64]
      refine pcf_cg fun i hi => ?_
      rw [uL_and, uL_xor, uL_sub, show uL (-1) = 2 ^ 64 - 1 by decide, show uL 1 = 1 by decide]
      exact tz_bits hv h2 (by
        by_cases c : t = 64
        · exact Or.inl c
        · exact Or.inr ⟨by omega, h3.resolve_left c⟩) hi
    · have k := l34 (fu := fu) h1 h2 h3 t 0 fu (by omega) (by omega)
      rw [show ((0 : Nat) : Int) = 0 from rfl] at k
      rw [k, obind_ret, iI_int]
  · refine ⟨pcf (uL v).testBit 64, pcf_le _ 64, ?_, ?_⟩
    · rw [bc64, obind_ret]
    · have k := l59 (fu := fu) (v := v) 64 0 fu (by omega) (by omega)
      rw [show ((pcf (uL v).testBit 0 : Nat) : Int) = 0 from rfl, show ((0 : Nat) : Int) = 0 from rfl] at k
      rw [k, obind_ret]
      dsimp only
      rw [iI_int]
end CNL
