/-! THE TAPE: the class's Source and the reference's cursor, byte by byte -/
theorem by8_ge (x : Int32) : 0 ≤ by8 x ∧ by8 x ≤ 255 := by
  unfold by8
  have h : (x &&& 255).toBitVec = x.toBitVec &&& 255#32 := rfl
  have h1 : (x &&& 255).toBitVec.toNat ≤ 255 := by rw [h, BitVec.toNat_and]; exact Nat.and_le_right
  have h2 : (x &&& 255).toInt = ((x &&& 255).toBitVec.toNat : Int) := by
    show (x &&& 255).toBitVec.toInt = _
    rw [BitVec.toInt_eq_toNat_of_lt (by omega)]
  omega
theorem so_oct {a L : Int} {f : Nat → Int32} (h1 : 0 ≤ a) (h2 : a < L) (h3 : L ≤ 2000) : f_So_octet (KSo.mk a L false f) = .ret (KSo.mk (a + 1) L false f, by8 (f a.toNat)) := by
  unfold f_So_octet jp
  simp only [KSo.mk, KSo.failed, KSo.at_, KSo.limit, KSo.bytes]
  rw [if_neg (by decide), if_pos h2, if_pos (by omega), if_pos (by omega)]
theorem so_octE {a L : Int} {b : Bool} {f : Nat → Int32} (h : b = true ∨ L ≤ a) : f_So_octet (KSo.mk a L b f) = .ret (KSo.mk a L true f, 0) := by
  unfold f_So_octet jp
  simp only [KSo.mk, KSo.failed, KSo.at_, KSo.limit, KSo.bytes]
  by_cases c : b = true
  · rw [if_pos c]
  · rw [if_neg c, if_neg (by rcases h with h | h; exact absurd h c; omega)]
theorem mo_no {r n : Int} : f_Mo_no r n = .ret n := rfl
theorem mo_read {r : Int} : f_Mo_read r true = .ret r := rfl
theorem mo_readE {r : Int} : f_Mo_read r false = .thr 1 := rfl
theorem mo_one {r a L n : Int} {f : Nat → Int32} (h1 : 0 ≤ a) (h2 : a < L) (h3 : L ≤ 2000) : f_Mo_one r (KMc.mk a L) (KMt.mk f n) = .ret (r, KMc.mk (a + 1) L, by8 (f a.toNat)) := by
  unfold f_Mo_one jp
  simp only [KMc.mk, KMc.cursor, KMc.limit, KMt.mk, KMt.bytes]
  rw [if_neg (by omega), mo_read, obind2_ret, if_pos (by omega), if_pos (by omega), if_pos (by omega), show a + 1 - 1 = a by omega]
theorem mo_oneE {r a L : Int} {t : KMt} (h : L ≤ a) : f_Mo_one r (KMc.mk a L) t = .thr (1, KMc.mk a L) := by
  unfold f_Mo_one jp
  simp only [KMc.mk, KMc.cursor, KMc.limit]
  rw [if_pos h, mo_readE, obind2_thr]
/-! NUMBERS OF SEVERAL BYTES -/
/-- a long's bits as a number -/
def uL (v : Int64) : Nat := v.toBitVec.toNat
/-- one byte more of a number -/
def lb (v : Int64) (b k : Int) : Int64 := v ||| ((((iI b) &&& (iI 127)).toInt64) <<< ((iI (7 * k)).toInt64 &&& 63))
theorem uL_lt (v : Int64) : uL v < 2 ^ 64 := v.toBitVec.isLt
theorem uL_inj {a b : Int64} (h : uL a = uL b) : a = b := Int64.toBitVec_inj.mp (BitVec.eq_of_toNat_eq h)
theorem uL_toInt {v : Int64} (h : uL v < 2 ^ 63) : v.toInt = (uL v : Int) := by
  show v.toBitVec.toInt = _
  rw [BitVec.toInt_eq_toNat_of_lt (by unfold uL at h; omega)]; rfl
theorem lb_x : ∀ b : Fin 256, uL (((iI (b.val : Int)) &&& (iI 127)).toInt64) = b.val % 128 := by decide +kernel
theorem lb_s : ∀ k : Fin 10, ((((iI (7 * (k.val : Int))).toInt64 &&& 63).toBitVec.smod 64).toNat) = 7 * k.val := by decide +kernel
theorem uL_or (a b : Int64) : uL (a ||| b) = uL a ||| uL b := by unfold uL; rw [Int64.toBitVec_or, BitVec.toNat_or]
theorem uL_shl (a c : Int64) : uL (a <<< c) = uL a * 2 ^ (c.toBitVec.smod 64).toNat % 2 ^ 64 := by
  unfold uL; rw [Int64.toBitVec_shiftLeft, BitVec.shiftLeft_eq', BitVec.toNat_shiftLeft, Nat.shiftLeft_eq]
theorem uL_lb {v : Int64} {b : Int} {k : Nat} (hk : k ≤ 9) (h0 : 0 ≤ b) (h1 : b ≤ 255) : uL (lb v b k) = uL v ||| ((b.toNat % 128) * 2 ^ (7 * k) % 2 ^ 64) := by
  unfold lb
  rw [uL_or, uL_shl, lb_s ⟨k, by omega⟩]
  have h := lb_x ⟨b.toNat, by omega⟩
  rw [show ((⟨b.toNat, by omega⟩ : Fin 256).val : Int) = b by show (b.toNat : Int) = b; omega] at h
  rw [h]
theorem uL_lb8 {v : Int64} {b : Int} {k : Nat} (hk : k ≤ 8) (h0 : 0 ≤ b) (h1 : b ≤ 255) (hv : uL v < 2 ^ (7 * k)) : uL (lb v b k) = uL v + (b.toNat % 128) * 2 ^ (7 * k) := by
  rw [uL_lb (by omega) h0 h1]
  have hx : b.toNat % 128 < 128 := Nat.mod_lt _ (by decide)
  have hp : (b.toNat % 128) * 2 ^ (7 * k) < 2 ^ 64 := by
    have : (b.toNat % 128) * 2 ^ (7 * k) < 128 * 2 ^ (7 * k) := Nat.mul_lt_mul_of_pos_right hx (Nat.two_pow_pos _)
    have h2 : 128 * 2 ^ (7 * k) = 2 ^ (7 * k + 7) := by rw [Nat.pow_add]; omega
    have h3 : 2 ^ (7 * k + 7) ≤ 2 ^ 64 := Nat.pow_le_pow_right (by decide) (by omega)
    omega
  rw [Nat.mod_eq_of_lt hp, Nat.or_comm, ← Nat.shiftLeft_eq, ← Nat.shiftLeft_add_eq_or_of_lt hv, Nat.shiftLeft_eq]
  omega
theorem uL_0 : uL 0 = 0 := by decide
theorem cnt_end {fu n1 : Nat} {t : KMt} {r : Int} {c : KMc} {v : Int64} {k : Int} (hk : 5 ≤ k) : L4_Mo_count fu t (n1 + 1) r c v k = .thr (1, c) := by
  rw [L4_Mo_count.eq_2, if_pos hk, mo_no, obind_ret]
theorem uns_end {fu n2 : Nat} {most v : Int64} {a L k : Int} {b : Bool} {f : Nat → Int32} (hk : 5 ≤ k) : L5_So_unsigned fu most (n2 + 1) (KSo.mk a L b f) v k = .ret (KSo.mk a L true f, 0) := by
  rw [L5_So_unsigned.eq_2, if_pos hk]
theorem cnt_out {fu n1 : Nat} {t : KMt} {r a L : Int} {v : Int64} {k : Int} (hk : k < 5) (ha : L ≤ a) : L4_Mo_count fu t (n1 + 1) r (KMc.mk a L) v k = .thr (1, KMc.mk a L) := by
  rw [L4_Mo_count.eq_2, if_neg (by omega), mo_oneE ha, obind2_thr]
theorem cnt_step {fu n1 : Nat} {f : Nat → Int32} {r a L n : Int} {v : Int64} {k : Int} (h0 : 0 ≤ a) (ha : a < L) (hL : L ≤ 2000) (hk0 : 0 ≤ k) (hk : k < 5) : L4_Mo_count fu (KMt.mk f n) (n1 + 1) r (KMc.mk a L) v k =
    if k = 4 ∧ 16 ≤ by8 (f a.toNat) then .thr (1, KMc.mk (a + 1) L) else if 128 ≤ by8 (f a.toNat) then L4_Mo_count fu (KMt.mk f n) n1 r (KMc.mk (a + 1) L) (lb v (by8 (f a.toNat)) k) (k + 1) else .ret (r, KMc.mk (a + 1) L, lb v (by8 (f a.toNat)) k) := by
  rw [L4_Mo_count.eq_2, if_neg (by omega), mo_one h0 ha hL, obind2_ret]
  generalize by8 (f a.toNat) = b
  simp only [jp]
  by_cases h5 : k = 4 ∧ 16 ≤ b
  · rw [if_pos h5, if_neg (by omega), if_pos h5.2, mo_readE, obind2_thr]
  · rw [if_neg h5]
    have e : ∀ (x y : Out (KRf × KMc) (KRf × KMc × Int64)), (if k < 4 then x else if 16 ≤ b then y else x) = x := by
      intro x y
      by_cases q : k < 4
      · rw [if_pos q]
      · rw [if_neg q, if_neg (by omega)]
    rw [e, mo_read, obind2_ret, if_pos (by omega), if_pos (show R32 (k + 1) by omega)]; rfl
theorem uns_step {fu n2 : Nat} {most v : Int64} {a L k : Int} {f : Nat → Int32} (h0 : 0 ≤ a) (ha : a < L) (hL : L ≤ 2000) (hk0 : 0 ≤ k) (hk : k < 5) : L5_So_unsigned fu most (n2 + 1) (KSo.mk a L false f) v k =
    if 128 ≤ by8 (f a.toNat) then L5_So_unsigned fu most n2 (KSo.mk (a + 1) L false f) (lb v (by8 (f a.toNat)) k) (k + 1) else if (lb v (by8 (f a.toNat)) k).toInt ≤ most.toInt then .ret (KSo.mk (a + 1) L false f, lb v (by8 (f a.toNat)) k) else .ret (KSo.mk (a + 1) L true f, 0) := by
  rw [L5_So_unsigned.eq_2, if_neg (by omega), so_oct h0 ha hL, obind_ret]
  generalize by8 (f a.toNat) = b
  simp only [jp]
  rw [if_pos (by omega), if_pos (show R32 (k + 1) by omega)]
  by_cases h : 128 ≤ b
  · rw [if_pos h, if_pos h]; rfl
  · rw [if_neg h, if_neg h]
    show (if (lb v b k).toInt ≤ most.toInt then _ else _) = _
    by_cases hle : (lb v b k).toInt ≤ most.toInt
    · rw [if_pos hle, if_pos hle]; rfl
    · rw [if_neg hle, if_neg hle]; rfl
theorem uns_out {fu n2 : Nat} {most v : Int64} {a L k : Int} {b : Bool} {f : Nat → Int32} (h : b = true ∨ L ≤ a) (hk0 : 0 ≤ k) (hk : k < 5) : L5_So_unsigned fu most (n2 + 1) (KSo.mk a L b f) v k = .ret (KSo.mk a L true f, 0) := by
  rw [L5_So_unsigned.eq_2, if_neg (by omega), so_octE h, obind_ret]
  simp only [jp]
  rw [if_pos (by omega), if_neg (by decide)]
  by_cases hle : (lb v 0 k).toInt ≤ most.toInt
  · show (if (lb v 0 k).toInt ≤ most.toInt then _ else _) = _
    rw [if_pos hle]; rfl
  · show (if (lb v 0 k).toInt ≤ most.toInt then _ else _) = _
    rw [if_neg hle]; rfl
/-- the class's road through a number, and the reference's, step by step: either both have it, or neither -/
theorem lp_uns {fu : Nat} {most : Int64} {f : Nat → Int32} {L r n : Int} (hL : L ≤ 2000) (hm : most.toInt < 2 ^ 32) : ∀ (j k : Nat) (a : Int) (v : Int64) (n1 n2 : Nat), j + k = 5 → 0 ≤ a → a ≤ L → uL v < 2 ^ (7 * k) → j < n1 → j < n2 →
    (∃ (q : Int) (w : Int64), L4_Mo_count fu (KMt.mk f n) n1 r (KMc.mk a L) v k = .ret (r, KMc.mk q L, w) ∧ L5_So_unsigned fu most n2 (KSo.mk a L false f) v k = (if w.toInt ≤ most.toInt then .ret (KSo.mk q L false f, w) else .ret (KSo.mk q L true f, 0)) ∧ a < q ∧ q ≤ L ∧ uL w < 2 ^ 32) ∨
    (∃ (q q2 : Int), L4_Mo_count fu (KMt.mk f n) n1 r (KMc.mk a L) v k = .thr (1, KMc.mk q2 L) ∧ L5_So_unsigned fu most n2 (KSo.mk a L false f) v k = .ret (KSo.mk q L true f, 0) ∧ a ≤ q ∧ q ≤ L) := by
  intro j
  induction j with
  | zero =>
    intro k a v n1 n2 hj h0 h1 hv hn1 hn2
    obtain ⟨n1, rfl⟩ : ∃ q, n1 = q + 1 := ⟨n1 - 1, by omega⟩
    obtain ⟨n2, rfl⟩ : ∃ q, n2 = q + 1 := ⟨n2 - 1, by omega⟩
    exact Or.inr ⟨a, a, cnt_end (by omega), uns_end (by omega), Int.le_refl _, h1⟩
  | succ j ih =>
    intro k a v n1 n2 hj h0 h1 hv hn1 hn2
    obtain ⟨n1, rfl⟩ : ∃ q, n1 = q + 1 := ⟨n1 - 1, by omega⟩
    obtain ⟨n2, rfl⟩ : ∃ q, n2 = q + 1 := ⟨n2 - 1, by omega⟩
    by_cases ha : a < L
    · rw [cnt_step h0 ha hL (by omega) (by omega), uns_step h0 ha hL (by omega) (by omega)]
      have hb := by8_ge (f a.toNat)
      generalize by8 (f a.toNat) = b at hb ⊢
      have hu := uL_lb8 (v := v) (b := b) (k := k) (by omega) (by omega) (by omega) hv
      have hx : b.toNat % 128 < 128 := Nat.mod_lt _ (by decide)
      have hmul : (b.toNat % 128) * 2 ^ (7 * k) ≤ 127 * 2 ^ (7 * k) := Nat.mul_le_mul_right _ (by omega)
      by_cases h128 : 128 ≤ b
      · rw [if_pos h128, if_pos h128]
        by_cases h5 : (k : Int) = 4 ∧ 16 ≤ b
        · rw [if_pos h5]
          obtain ⟨n2, rfl⟩ : ∃ q, n2 = q + 1 := ⟨n2 - 1, by omega⟩
          exact Or.inr ⟨a + 1, a + 1, rfl, uns_end (by omega), by omega, by omega⟩
        · rw [if_neg h5]
          have hlt : uL (lb v b k) < 2 ^ (7 * (k + 1)) := by
            rw [hu, show 7 * (k + 1) = 7 * k + 7 by omega, Nat.pow_add]
            omega
          rcases ih (k + 1) (a + 1) (lb v b k) n1 n2 (by omega) (by omega) (by omega) hlt (by omega) (by omega) with ⟨q, w, e1, e2, e3, e4, e5⟩ | ⟨q, q2, e1, e2, e3, e4⟩
          · exact Or.inl ⟨q, w, e1, e2, by omega, e4, e5⟩
          · exact Or.inr ⟨q, q2, e1, e2, by omega, e4⟩
      · rw [if_neg h128, if_neg h128]
        by_cases h5 : (k : Int) = 4 ∧ 16 ≤ b
        · rw [if_pos h5]
          have hk : k = 4 := by omega
          subst hk
          have ht := uL_toInt (v := lb v b (4 : Nat)) (by rw [hu]; omega)
          rw [if_neg (by rw [ht, hu]; omega)]
          exact Or.inr ⟨a + 1, a + 1, rfl, rfl, by omega, by omega⟩
        · rw [if_neg h5]
          have hlt : uL (lb v b k) < 2 ^ 32 := by
            rw [hu]
            rcases (show k = 0 ∨ k = 1 ∨ k = 2 ∨ k = 3 ∨ k = 4 by omega) with rfl | rfl | rfl | rfl | rfl <;> omega
          exact Or.inl ⟨a + 1, lb v b k, rfl, rfl, by omega, by omega, hlt⟩
    · exact Or.inr ⟨a, a, cnt_out (by omega) (by omega), uns_out (Or.inr (by omega)) (by omega) (by omega), by omega, h1⟩
/-! PAIRS: what the class's Source answers, and what the reference answers, at the same place -/
/-- both have it, and stand behind it at the same place; or the reference refuses, and the class has failed -/
def PrR {α β : Type} (st : Int) (a L : Int) (f : Nat → Int32) (r : Int) (F : Out (KRf × KMc) (KRf × KMc × β)) (G : Out Empty (KSo × α)) (V : β → α → Prop) (D : α → Prop) : Prop :=
  (∃ (q : Int) (b : β) (v : α), F = .ret (r, KMc.mk q L, b) ∧ G = .ret (KSo.mk q L false f, v) ∧ a + st ≤ q ∧ q ≤ L ∧ V b v) ∨ (∃ (c : KMc) (q : Int) (v : α), F = .thr (1, c) ∧ G = .ret (KSo.mk q L true f, v) ∧ a ≤ q ∧ q ≤ L ∧ D v)
section PAIR
variable {fu : Nat} {f : Nat → Int32} {a L r n : Int}
theorem pr_one (h0 : 0 ≤ a) (h1 : a ≤ L) (h3 : L ≤ 2000) : PrR 1 a L f r (f_Mo_one r (KMc.mk a L) (KMt.mk f n)) (f_So_octet (KSo.mk a L false f)) (fun b v => b = v ∧ 0 ≤ v ∧ v ≤ 255) (fun v => v = 0) := by
  by_cases h : a < L
  · have := by8_ge (f a.toNat)
    exact Or.inl ⟨a + 1, _, _, mo_one h0 h h3, so_oct h0 h h3, by omega, by omega, rfl, this.1, this.2⟩
  · exact Or.inr ⟨_, a, _, mo_oneE (by omega), so_octE (Or.inr (by omega)), by omega, h1, rfl⟩
theorem so_unsD {most : Int64} (hfu : 0 < fu) : f_So_unsigned fu (KSo.mk a L true f) most = .ret (KSo.mk a L true f, 0) := by
  obtain ⟨g, rfl⟩ : ∃ g, fu = g + 1 := ⟨fu - 1, by omega⟩
  exact uns_out (Or.inl rfl) (by decide) (by decide)
theorem pr_cnt (hfu : 5 < fu) (h0 : 0 ≤ a) (h1 : a ≤ L) (h3 : L ≤ 2000) : PrR 1 a L f r (f_Mo_count fu r (KMc.mk a L) (KMt.mk f n)) (f_So_unsigned fu (KSo.mk a L false f) 4294967295) (fun b v => b = v ∧ uL v < 2 ^ 32) (fun v => v = 0) := by
  rcases lp_uns (fu := fu) (most := 4294967295) (f := f) (r := r) (n := n) h3 (by decide) 5 0 a 0 fu fu rfl h0 h1 (by decide) (by omega) (by omega) with ⟨q, w, e1, e2, e3, e4, e5⟩ | ⟨q, q2, e1, e2, e3, e4⟩
  · refine Or.inl ⟨q, w, w, e1, ?_, by omega, e4, rfl, e5⟩
    refine e2.trans (if_pos ?_)
    rw [uL_toInt (by omega), show (4294967295 : Int64).toInt = 4294967295 by decide]; omega
  · exact Or.inr ⟨_, q, 0, e1, e2, e3, e4, rfl⟩
theorem uL_i32 {w : Int64} (h : uL w < 2 ^ 31) : w.toInt32.toInt = (uL w : Int) := by
  have e : w.toInt = (uL w : Int) := uL_toInt (by omega)
  rw [Int64.toInt_toInt32, e, Int.bmod_eq_of_le (by omega) (by omega)]
theorem pr_few {most : Int64} (hm : most.toInt < 2 ^ 31) (hfu : 5 < fu) (h0 : 0 ≤ a) (h1 : a ≤ L) (h3 : L ≤ 2000) : PrR 1 a L f r (f_Mo_few2 fu r (KMc.mk a L) (KMt.mk f n) most) (f_So_unsigned fu (KSo.mk a L false f) most) (fun b v => v.toInt = b ∧ v.toInt32.toInt = b ∧ 0 ≤ b ∧ b ≤ most.toInt) (fun v => v = 0) := by
  rcases lp_uns (fu := fu) (most := most) (f := f) (r := r) (n := n) h3 (by omega) 5 0 a 0 fu fu rfl h0 h1 (by decide) (by omega) (by omega) with ⟨q, w, e1, e2, e3, e4, e5⟩ | ⟨q, q2, e1, e2, e3, e4⟩
  · have hw := uL_toInt (v := w) (by omega)
    have e1' : f_Mo_few2 fu r (KMc.mk a L) (KMt.mk f n) most = if most.toInt < w.toInt then .thr (1, KMc.mk q L) else .ret (r, KMc.mk q L, w.toInt32.toInt) := by
      unfold f_Mo_few2
      rw [show f_Mo_count fu r (KMc.mk a L) (KMt.mk f n) = _ from e1, obind2_ret]
      simp only [jp]
      by_cases h : most.toInt < w.toInt
      · rw [if_pos h, if_pos h, mo_readE, obind2_thr]
      · rw [if_neg h, if_neg h, mo_read, obind2_ret]
    by_cases h : most.toInt < w.toInt
    · exact Or.inr ⟨_, q, 0, e1'.trans (if_pos h), e2.trans (if_neg (by omega)), by omega, e4, rfl⟩
    · have e6 := uL_i32 (w := w) (by omega)
      exact Or.inl ⟨q, _, w, e1'.trans (if_neg h), e2.trans (if_pos (by omega)), by omega, e4, by rw [e6, hw], rfl, by omega, by omega⟩
  · refine Or.inr ⟨KMc.mk q2 L, q, 0, ?_, e2, e3, e4, rfl⟩
    unfold f_Mo_few2
    rw [show f_Mo_count fu r (KMc.mk a L) (KMt.mk f n) = _ from e1, obind2_thr]
theorem pr_idx (hfu : 5 < fu) (h0 : 0 ≤ a) (h1 : a ≤ L) (h3 : L ≤ 2000) : PrR 1 a L f r (f_Mo_index fu r (KMc.mk a L) (KMt.mk f n)) (f_So_unsigned fu (KSo.mk a L false f) 2147483647) (fun b v => v.toInt = b ∧ v.toInt32.toInt = b ∧ 0 ≤ b ∧ b ≤ 2147483647) (fun v => v = 0) := by
  rcases pr_few (fu := fu) (f := f) (a := a) (L := L) (r := r) (n := n) (most := 2147483647) (by decide) hfu h0 h1 h3 with ⟨q, b, v, e1, e2, e3, e4, e5⟩ | ⟨c, q, v, e1, e2, e3, e4, e5⟩
  · refine Or.inl ⟨q, b, v, ?_, e2, e3, e4, e5⟩
    unfold f_Mo_index; rw [e1, obind2_ret]
  · refine Or.inr ⟨c, q, v, ?_, e2, e3, e4, e5⟩
    unfold f_Mo_index; rw [e1, obind2_thr]
theorem so_vtD : ∃ v, f_So_valueType (KSo.mk a L true f) = .ret (KSo.mk a L true f, v) := ⟨0, by
  unfold f_So_valueType
  rw [so_octE (Or.inl rfl), obind_ret]; rfl⟩
theorem pr_vt (h0 : 0 ≤ a) (h1 : a ≤ L) (h3 : L ≤ 2000) : PrR 1 a L f r (f_Mo_valueType r (KMc.mk a L) (KMt.mk f n)) (f_So_valueType (KSo.mk a L false f)) (fun b v => b = v ∧ (v = 127 ∨ v = 126)) (fun _ => True) := by
  unfold f_Mo_valueType f_So_valueType
  rcases pr_one (f := f) (r := r) (n := n) h0 h1 h3 with ⟨q, b, v, e1, e2, e3, e4, rfl, e5⟩ | ⟨c, q, v, e1, e2, e3, e4, e5⟩
  · rw [e1, e2, obind2_ret, obind_ret]
    simp only [jp]
    by_cases h7 : b = 127
    · exact Or.inl ⟨q, b, b, by rw [if_pos h7, mo_read, obind2_ret], by rw [if_pos h7], e3, e4, rfl, Or.inl h7⟩
    · by_cases h6 : b = 126
      · exact Or.inl ⟨q, b, b, by rw [if_neg h7, if_pos h6, mo_read, obind2_ret], by rw [if_neg h7, if_pos h6], e3, e4, rfl, Or.inr h6⟩
      · exact Or.inr ⟨KMc.mk q L, q, b, by rw [if_neg h7, if_neg h6, mo_readE, obind2_thr], by rw [if_neg h7, if_neg h6], by omega, e4, trivial⟩
  · rw [e1, e2, obind2_thr, obind_ret]
    refine Or.inr ⟨c, q, v, rfl, ?_, e3, e4, trivial⟩
    simp only [jp]
    subst e5
    rfl
end PAIR
/-! NUMBERS WITH A SIGN -/
/-- the last byte's seven bits with their sign -/
def sx (b : Int) : Int32 := ((iI b) <<< ((iI 25) &&& 31)) >>> ((iI 25) &&& 31)
/-- the class's number -/
def sgC (v : Int64) (b k : Int) : Int64 := v ||| ((iI (sx b).toInt).toInt64 <<< ((iI (7 * k)).toInt64 &&& 63))
/-- the reference's -/
def sgM (v : Int64) (b k : Int) : Int64 := if 64 ≤ (7 * k) + 7 then lb v b k else ((lb v b k) <<< ((iI (64 - ((7 * k) + 7))).toInt64 &&& 63)) >>> ((iI (64 - ((7 * k) + 7))).toInt64 &&& 63)
theorem sx_u : ∀ b : Fin 128, uL ((iI (sx (b.val : Int)).toInt).toInt64) = if b.val < 64 then b.val else 2 ^ 64 - 128 + b.val := by decide +kernel
theorem sg_s : ∀ k : Fin 9, ((((iI (64 - ((7 * (k.val : Int)) + 7))).toInt64 &&& 63).toBitVec.smod 64).toNat) = 57 - 7 * k.val := by decide +kernel
theorem uL_ofInt {w : Int64} : w.toInt = if uL w < 2 ^ 63 then (uL w : Int) else (uL w : Int) - 2 ^ 64 := by
  have h := uL_lt w
  show w.toBitVec.toInt = _
  rw [BitVec.toInt_eq_toNat_cond]
  unfold uL
  by_cases c : w.toBitVec.toNat < 2 ^ 63
  · rw [if_pos c, if_pos (by omega)]
  · rw [if_neg c, if_neg (by omega)]; omega
theorem sg_shr (x c : Int64) : (x >>> c).toInt = x.toInt / 2 ^ (c.toBitVec.smod 64).toNat := by
  show (x >>> c).toBitVec.toInt = x.toBitVec.toInt / _
  rw [Int64.toBitVec_shiftRight, BitVec.sshiftRight', BitVec.toInt_sshiftRight, Int.shiftRight_eq_div_pow]
  norm_cast
theorem sg_C {v : Int64} {b : Int} {k : Nat} (hk : k ≤ 8) (h0 : 0 ≤ b) (h1 : b < 128) (hv : uL v < 2 ^ (7 * k)) : uL (sgC v b k) = if b < 64 then uL v + b.toNat * 2 ^ (7 * k) else 2 ^ 64 - (128 - b.toNat) * 2 ^ (7 * k) + uL v := by
  unfold sgC
  rw [uL_or, uL_shl, lb_s ⟨k, by omega⟩]
  have h := sx_u ⟨b.toNat, by omega⟩
  rw [show ((⟨b.toNat, by omega⟩ : Fin 128).val : Int) = b by show (b.toNat : Int) = b; omega] at h
  rw [h]
  have key : ∀ x : Nat, uL v ||| x * 2 ^ (7 * k) = uL v + x * 2 ^ (7 * k) := by
    intro x
    rw [Nat.or_comm, ← Nat.shiftLeft_eq, ← Nat.shiftLeft_add_eq_or_of_lt hv]; omega
  show uL v ||| (if b.toNat < 64 then b.toNat else 2 ^ 64 - 128 + b.toNat) * 2 ^ (7 * k) % 2 ^ 64 = _
  have hp : 2 ^ (7 * k) ≤ 2 ^ 56 := Nat.pow_le_pow_right (by decide) (by omega)
  by_cases c : b < 64
  · rw [if_pos c, if_pos (by omega)]
    have : b.toNat * 2 ^ (7 * k) ≤ 63 * 2 ^ 56 := Nat.mul_le_mul (by omega) hp
    rw [Nat.mod_eq_of_lt (by omega), key]
  · rw [if_neg c, if_neg (by omega)]
    obtain ⟨d, hd⟩ : ∃ d, b.toNat + d = 128 := ⟨128 - b.toNat, by omega⟩
    have e1 : (2 ^ 64 - 128 + b.toNat) = 2 ^ 64 - d := by omega
    have e2 : 128 - b.toNat = d := by omega
    have hd1 : d * 2 ^ (7 * k) ≤ 64 * 2 ^ 56 := Nat.mul_le_mul (by omega) hp
    have hd0 : 1 * 1 ≤ d * 2 ^ (7 * k) := Nat.mul_le_mul (by omega) (Nat.one_le_two_pow)
    -- 2^64 is a multiple of 2^(7k)
    obtain ⟨M, hM⟩ : ∃ M, (2 : Nat) ^ 64 = M * 2 ^ (7 * k) := ⟨2 ^ (64 - 7 * k), by rw [← Nat.pow_add, show 64 - 7 * k + 7 * k = 64 by omega]⟩
    have hMd : d ≤ M := by
      apply Nat.le_of_mul_le_mul_right (c := 2 ^ (7 * k)) _ (Nat.two_pow_pos _)
      rw [← hM]; omega
    have e3 : (2 ^ 64 - d) * 2 ^ (7 * k) % 2 ^ 64 = (M - d) * 2 ^ (7 * k) := by
      have e4 : (2 ^ 64 - d) * 2 ^ (7 * k) = (M - d) * 2 ^ (7 * k) + 2 ^ 64 * (2 ^ (7 * k) - 1) := by
        rw [Nat.sub_mul, Nat.sub_mul, ← hM, Nat.mul_sub]
        have : 2 ^ 64 * 1 ≤ 2 ^ 64 * 2 ^ (7 * k) := Nat.mul_le_mul_left _ (Nat.one_le_two_pow)
        omega
      rw [e4, Nat.add_mul_mod_self_left, Nat.mod_eq_of_lt]
      rw [Nat.sub_mul, ← hM]; omega
    rw [e1, e2, e3, key, Nat.sub_mul, ← hM]; omega
theorem sg_eq {v : Int64} {b : Int} {k : Nat} (hk : k ≤ 8) (h0 : 0 ≤ b) (h1 : b < 128) (hv : uL v < 2 ^ (7 * k)) : sgM v b k = sgC v b k := by
  apply Int64.toInt_inj.mp
  unfold sgM
  rw [if_neg (by omega), sg_shr, uL_ofInt (w := (lb v b k) <<< _), uL_shl, sg_s ⟨k, by omega⟩, uL_lb8 hk h0 (by omega) hv, uL_ofInt (w := sgC v b k), sg_C hk h0 h1 hv, show b.toNat % 128 = b.toNat by omega]
  show (if (uL v + b.toNat * 2 ^ (7 * k)) * 2 ^ (57 - 7 * k) % 2 ^ 64 < 2 ^ 63 then (((uL v + b.toNat * 2 ^ (7 * k)) * 2 ^ (57 - 7 * k) % 2 ^ 64 : Nat) : Int) else (((uL v + b.toNat * 2 ^ (7 * k)) * 2 ^ (57 - 7 * k) % 2 ^ 64 : Nat) : Int) - 2 ^ 64) / 2 ^ (57 - 7 * k) = _
  rcases (show k = 0 ∨ k = 1 ∨ k = 2 ∨ k = 3 ∨ k = 4 ∨ k = 5 ∨ k = 6 ∨ k = 7 ∨ k = 8 by omega) with rfl | rfl | rfl | rfl | rfl | rfl | rfl | rfl | rfl <;> simp only [Nat.mul_zero, Nat.reduceMul, Nat.reducePow, Nat.reduceSub] at hv ⊢ <;> (split <;> split <;> omega)
/-! THE TWO READERS OF NUMBERS WITH A SIGN -/
abbrev sgX (b t : Int) : Int := (((iI b) &&& (iI 127)) >>> ((iI t) &&& 31)).toInt
abbrev sgY (t : Int) : Int := ((iI 127) >>> ((iI t) &&& 31)).toInt
abbrev sgS (b t : Int) : Int := ((iI (sx b).toInt) >>> ((iI t) &&& 31)).toInt
theorem sg_g3 : ∀ b : Fin 128, (sgX b.val 3 = 0 ∨ sgX b.val 3 = sgY 3) ↔ (sgS b.val 3 = 0 ∨ sgS b.val 3 = -1) := by decide +kernel
theorem sg_g0 : ∀ b : Fin 128, (sgX b.val 0 = 0 ∨ sgX b.val 0 = sgY 0) ↔ (sgS b.val 0 = 0 ∨ sgS b.val 0 = -1) := by decide +kernel
theorem sg_g6 : ∀ b : Fin 128, sgS b.val 6 = 0 ∨ sgS b.val 6 = -1 := by decide +kernel
theorem sg_r3 : ∀ b : Fin 128, (sgS b.val 3 = 0 ∨ sgS b.val 3 = -1) → b.val < 8 ∨ 120 ≤ b.val := by decide +kernel
theorem sg_r0 : ∀ b : Fin 128, (sgS b.val 0 = 0 ∨ sgS b.val 0 = -1) → b.val = 0 ∨ b.val = 127 := by decide +kernel
theorem sgD32 : ((iI ((32 : Int) + 6)) / (iI 7)).toInt = 5 := by decide
theorem sgD64 : ((iI ((64 : Int) + 6)) / (iI 7)).toInt = 10 := by decide
/-- how many bytes there may be -/
abbrev sgK (bits : Int) : Int := ((iI (bits + 6)) / (iI 7)).toInt
/-- the last byte's bits that are no part of the number are all its sign -/
abbrev sgG (bits k b : Int) : Prop := b < 128 ∧ (sgX b (bits - 7 * k - 1) = 0 ∨ sgX b (bits - 7 * k - 1) = sgY (bits - 7 * k - 1))
section SG
variable {fu n1 n2 : Nat} {f : Nat → Int32} {a L r n bits k : Int} {v : Int64}
theorem ms_end {t : KMt} {c : KMc} (hk : sgK bits ≤ k) : L14_Mo_signed fu t bits (n1 + 1) r c v k = .thr (1, c) := by
  rw [L14_Mo_signed.eq_2, if_pos hk, mo_no, obind_ret]
theorem ms_out {t : KMt} (hk : ¬ sgK bits ≤ k) (ha : L ≤ a) : L14_Mo_signed fu t bits (n1 + 1) r (KMc.mk a L) v k = .thr (1, KMc.mk a L) := by
  rw [L14_Mo_signed.eq_2, if_neg hk, mo_oneE ha, obind2_thr]
theorem ms_step (h0 : 0 ≤ a) (ha : a < L) (hL : L ≤ 2000) (hk : ¬ sgK bits ≤ k) (hk0 : 0 ≤ k) (hk9 : k ≤ 9) (hb : bits = 32 ∨ bits = 64) : L14_Mo_signed fu (KMt.mk f n) bits (n1 + 1) r (KMc.mk a L) v k =
    if k = sgK bits - 1 ∧ ¬ sgG bits k (by8 (f a.toNat)) then .thr (1, KMc.mk (a + 1) L) else if 128 ≤ by8 (f a.toNat) then L14_Mo_signed fu (KMt.mk f n) bits n1 r (KMc.mk (a + 1) L) (lb v (by8 (f a.toNat)) k) (k + 1) else .ret (r, KMc.mk (a + 1) L, sgM v (by8 (f a.toNat)) k) := by
  rw [L14_Mo_signed.eq_2, if_neg hk, mo_one h0 ha hL, obind2_ret]
  have hKr : sgK bits = 5 ∨ sgK bits = 10 := by rcases hb with rfl | rfl; exact Or.inl sgD32; exact Or.inr sgD64
  generalize by8 (f a.toNat) = b
  rw [if_pos (show R32 (sgK bits - 1) by omega)]
  simp only [jp]
  have h7 : R32 (7 * k) := by omega
  have h1 : R32 (k + 1) := by omega
  have h77 : R32 (7 * k + 7) := by omega
  have tail : ∀ r' : Int, (if R32 (7 * k) then if 128 ≤ b then if R32 (k + 1) then L14_Mo_signed fu (KMt.mk f n) bits n1 r' (KMc.mk (a + 1) L) (lb v b k) (k + 1) else .bad else if R32 (7 * k) then if R32 (7 * k + 7) then if 64 ≤ 7 * k + 7 then .ret (r', KMc.mk (a + 1) L, lb v b k) else if R32 (64 - (7 * k + 7)) then if R32 (64 - (7 * k + 7)) then .ret (r', KMc.mk (a + 1) L, ((lb v b k) <<< ((iI (64 - ((7 * k) + 7))).toInt64 &&& 63)) >>> ((iI (64 - ((7 * k) + 7))).toInt64 &&& 63)) else .bad else .bad else .bad else .bad else .bad : Out (KRf × KMc) (KRf × KMc × Int64)) = if 128 ≤ b then L14_Mo_signed fu (KMt.mk f n) bits n1 r' (KMc.mk (a + 1) L) (lb v b k) (k + 1) else .ret (r', KMc.mk (a + 1) L, sgM v b k) := by
    intro r'
    simp only [if_pos h7, if_pos h1, if_pos h77]
    by_cases h : 128 ≤ b
    · simp only [if_pos h]
    · simp only [if_neg h]
      unfold sgM
      by_cases h2 : 64 ≤ 7 * k + 7
      · simp only [if_pos h2]
      · simp only [if_neg h2, if_pos (show R32 (64 - (7 * k + 7)) by omega)]
  by_cases hl : k = sgK bits - 1
  · rw [if_pos (show k = sgK bits - 1 from hl), if_pos h7, if_pos (show R32 (bits - 7 * k) by omega), if_pos (show R32 (bits - 7 * k - 1) by omega)]
    by_cases hg : sgG bits k b
    · rw [if_neg (show ¬ (k = sgK bits - 1 ∧ ¬ sgG bits k b) from fun q => q.2 hg), if_neg (show ¬ 128 ≤ b by have := hg.1; omega), if_neg (show ¬ 128 ≤ b by have := hg.1; omega)]
      have e : ∀ (x y : Out (KRf × KMc) (KRf × KMc × Int64)), (if sgX b (bits - 7 * k - 1) = 0 then x else if R32 (bits - 7 * k - 1) then if sgX b (bits - 7 * k - 1) = sgY (bits - 7 * k - 1) then x else y else .bad) = x := by
        intro x y
        by_cases q : sgX b (bits - 7 * k - 1) = 0
        · rw [if_pos q]
        · rw [if_neg q, if_pos (by omega), if_pos (hg.2.resolve_left q)]
      refine (e _ _).trans ?_
      rw [mo_read, obind2_ret]
      exact (tail r).trans (if_neg (show ¬ 128 ≤ b by have := hg.1; omega))
    · rw [if_pos (show k = sgK bits - 1 ∧ ¬ sgG bits k b from ⟨hl, hg⟩)]
      by_cases h : 128 ≤ b
      · rw [if_pos h, mo_readE, obind2_thr]
      · rw [if_neg h]
        have hn : ¬ (sgX b (bits - 7 * k - 1) = 0 ∨ sgX b (bits - 7 * k - 1) = sgY (bits - 7 * k - 1)) := fun q => hg ⟨by omega, q⟩
        have e : ∀ (x y : Out (KRf × KMc) (KRf × KMc × Int64)), (if sgX b (bits - 7 * k - 1) = 0 then x else if R32 (bits - 7 * k - 1) then if sgX b (bits - 7 * k - 1) = sgY (bits - 7 * k - 1) then x else y else .bad) = y := by
          intro x y
          rw [if_neg (fun q => hn (Or.inl q)), if_pos (by omega), if_neg (fun q => hn (Or.inr q))]
        refine (e _ _).trans ?_
        rw [mo_readE, obind2_thr]
  · rw [if_neg (show ¬ k = sgK bits - 1 from hl), if_neg (show ¬ (k = sgK bits - 1 ∧ ¬ sgG bits k b) from fun q => hl q.1)]
    exact tail r
theorem ss_end {b : Bool} (hk : bits ≤ k) : L5_So_signed fu bits (n2 + 1) (KSo.mk a L b f) v k = .ret (KSo.mk a L true f, 0) := by
  rw [L5_So_signed.eq_2, if_pos hk]
theorem ss_step (h0 : 0 ≤ a) (ha : a < L) (hL : L ≤ 2000) (hk0 : 0 ≤ k) (hk9 : 7 * k < bits) (hb : bits = 32 ∨ bits = 64) : L5_So_signed fu bits (n2 + 1) (KSo.mk a L false f) v (7 * k) =
    if 128 ≤ by8 (f a.toNat) then L5_So_signed fu bits n2 (KSo.mk (a + 1) L false f) (lb v (by8 (f a.toNat)) k) (7 * (k + 1)) else if sgS (by8 (f a.toNat)) (mnZ 7 (bits - 7 * k) - 1) = 0 ∨ sgS (by8 (f a.toNat)) (mnZ 7 (bits - 7 * k) - 1) = -1 then .ret (KSo.mk (a + 1) L false f, sgC v (by8 (f a.toNat)) k) else .ret (KSo.mk (a + 1) L true f, sgC v (by8 (f a.toNat)) k) := by
  rw [L5_So_signed.eq_2, if_neg (by omega), so_oct h0 ha hL, obind_ret]
  generalize by8 (f a.toNat) = b
  simp only [jp]
  have hm : R32 (mnZ 7 (bits - 7 * k) - 1) := by unfold mnZ; split <;> omega
  rw [if_pos (show R32 (7 * k + 7) by omega), if_pos (show R32 (bits - 7 * k) by omega), if_pos hm, show 7 * k + 7 = 7 * (k + 1) by omega]
  by_cases h : 128 ≤ b
  · rw [if_pos h, if_pos h]; rfl
  · rw [if_neg h, if_neg h]
    show (if sgS b (mnZ 7 (bits - 7 * k) - 1) = 0 then _ else if sgS b (mnZ 7 (bits - 7 * k) - 1) = -1 then _ else _) = _
    by_cases c1 : sgS b (mnZ 7 (bits - 7 * k) - 1) = 0
    · rw [if_pos c1, if_pos (Or.inl c1)]; rfl
    · by_cases c2 : sgS b (mnZ 7 (bits - 7 * k) - 1) = -1
      · rw [if_neg c1, if_pos c2, if_pos (Or.inr c2)]; rfl
      · rw [if_neg c1, if_neg c2, if_neg (fun q => q.elim c1 c2)]; rfl
theorem ss_out {b : Bool} (h : b = true ∨ L ≤ a) (hk0 : 0 ≤ k) (hk9 : k < bits) (hb : bits = 32 ∨ bits = 64) : ∃ w, L5_So_signed fu bits (n2 + 1) (KSo.mk a L b f) v k = .ret (KSo.mk a L true f, w) := by
  have hm : R32 (mnZ 7 (bits - k) - 1) := by unfold mnZ; split <;> omega
  rw [L5_So_signed.eq_2, if_neg (by omega), so_octE h, obind_ret]
  simp only [jp]
  rw [if_neg (by decide), if_pos (show R32 (bits - k) by omega), if_pos hm]
  split
  · exact ⟨_, rfl⟩
  · split
    · exact ⟨_, rfl⟩
    · exact ⟨_, rfl⟩
end SG
/-! A NUMBER WITH A SIGN: both have it, or neither -/
theorem sg_bK {bits : Int} (hb : bits = 32 ∨ bits = 64) : (bits = 32 ∧ sgK bits = 5) ∨ (bits = 64 ∧ sgK bits = 10) := by
  rcases hb with rfl | rfl
  · exact Or.inl ⟨rfl, sgD32⟩
  · exact Or.inr ⟨rfl, sgD64⟩
theorem sgC_int {v : Int64} {b : Int} {k : Nat} (hk : k ≤ 8) (h0 : 0 ≤ b) (h1 : b < 128) (hv : uL v < 2 ^ (7 * k)) : (sgC v b k).toInt = if b < 64 then (uL v : Int) + b * 2 ^ (7 * k) else (uL v : Int) - (128 - b) * 2 ^ (7 * k) := by
  rw [uL_ofInt, sg_C hk h0 h1 hv]
  have hb : (b.toNat : Int) = b := by omega
  rcases (show k = 0 ∨ k = 1 ∨ k = 2 ∨ k = 3 ∨ k = 4 ∨ k = 5 ∨ k = 6 ∨ k = 7 ∨ k = 8 by omega) with rfl | rfl | rfl | rfl | rfl | rfl | rfl | rfl | rfl <;> simp only [Nat.mul_zero, Nat.reduceMul, Nat.reducePow, Int.reducePow] at hv ⊢ <;> (split <;> split <;> omega)
theorem sg_last : ∀ v : Int64, sgM v 0 9 = sgC v 0 9 ∧ sgM v 127 9 = sgC v 127 9 := fun v => by
  constructor
  · unfold sgM sgC lb
    rw [if_pos (by decide)]
    congr 1
  · unfold sgM sgC lb
    rw [if_pos (by decide)]
    congr 1
theorem lp_sg {fu : Nat} {f : Nat → Int32} {L r n bits : Int} (hL : L ≤ 2000) (hb : bits = 32 ∨ bits = 64) : ∀ (j k : Nat) (a : Int) (v : Int64) (n1 n2 : Nat), (j + k : Int) = sgK bits → 0 ≤ a → a ≤ L → uL v < 2 ^ (7 * k) → j < n1 → j < n2 →
    (∃ (q : Int) (w : Int64), L14_Mo_signed fu (KMt.mk f n) bits n1 r (KMc.mk a L) v k = .ret (r, KMc.mk q L, w) ∧ L5_So_signed fu bits n2 (KSo.mk a L false f) v (7 * k) = .ret (KSo.mk q L false f, w) ∧ a < q ∧ q ≤ L ∧ (bits = 32 → R32 w.toInt)) ∨
    (∃ (c : KMc) (q : Int) (w : Int64), L14_Mo_signed fu (KMt.mk f n) bits n1 r (KMc.mk a L) v k = .thr (1, c) ∧ L5_So_signed fu bits n2 (KSo.mk a L false f) v (7 * k) = .ret (KSo.mk q L true f, w) ∧ a ≤ q ∧ q ≤ L) := by
  have hB := sg_bK hb
  intro j
  induction j with
  | zero =>
    intro k a v n1 n2 hj h0 h1 hv hn1 hn2
    obtain ⟨n1, rfl⟩ : ∃ q, n1 = q + 1 := ⟨n1 - 1, by omega⟩
    obtain ⟨n2, rfl⟩ : ∃ q, n2 = q + 1 := ⟨n2 - 1, by omega⟩
    exact Or.inr ⟨_, a, 0, ms_end (by omega), ss_end (by omega), Int.le_refl _, h1⟩
  | succ j ih =>
    intro k a v n1 n2 hj h0 h1 hv hn1 hn2
    obtain ⟨n1, rfl⟩ : ∃ q, n1 = q + 1 := ⟨n1 - 1, by omega⟩
    obtain ⟨n2, rfl⟩ : ∃ q, n2 = q + 1 := ⟨n2 - 1, by omega⟩
    by_cases ha : a < L
    · rw [ms_step h0 ha hL (by omega) (by omega) (by omega) hb, ss_step h0 ha hL (by omega) (by omega) hb]
      have hbb := by8_ge (f a.toNat)
      generalize by8 (f a.toNat) = b at hbb ⊢
      by_cases h128 : 128 ≤ b
      · rw [if_pos h128, if_pos h128]
        by_cases hl : (k : Int) = sgK bits - 1
        · rw [if_pos (show (k : Int) = sgK bits - 1 ∧ ¬ sgG bits k b from ⟨hl, fun q => by have := q.1; omega⟩)]
          obtain ⟨n2, rfl⟩ : ∃ q, n2 = q + 1 := ⟨n2 - 1, by omega⟩
          exact Or.inr ⟨_, a + 1, 0, rfl, ss_end (by omega), by omega, by omega⟩
        · rw [if_neg (show ¬ ((k : Int) = sgK bits - 1 ∧ ¬ sgG bits k b) from fun q => hl q.1)]
          have hk8 : k ≤ 8 := by omega
          have hu := uL_lb8 (v := v) (b := b) (k := k) hk8 (by omega) (by omega) hv
          have hx : b.toNat % 128 < 128 := Nat.mod_lt _ (by decide)
          have hmul : (b.toNat % 128) * 2 ^ (7 * k) ≤ 127 * 2 ^ (7 * k) := Nat.mul_le_mul_right _ (by omega)
          have hlt : uL (lb v b k) < 2 ^ (7 * (k + 1)) := by
            rw [hu, show 7 * (k + 1) = 7 * k + 7 by omega, Nat.pow_add]
            omega
          rcases ih (k + 1) (a + 1) (lb v b k) n1 n2 (by omega) (by omega) (by omega) hlt (by omega) (by omega) with ⟨q, w, e1, e2, e3, e4, e5⟩ | ⟨c, q, w, e1, e2, e3, e4⟩
          · exact Or.inl ⟨q, w, e1, e2, by omega, e4, e5⟩
          · exact Or.inr ⟨c, q, w, e1, e2, by omega, e4⟩
      · rw [if_neg h128, if_neg h128]
        by_cases hl : (k : Int) = sgK bits - 1
        · -- the last byte that there may be
          rcases hB with ⟨rfl, hK⟩ | ⟨rfl, hK⟩
          · have hk4 : k = 4 := by omega
            subst hk4
            rw [show mnZ 7 (32 - 7 * ((4 : Nat) : Int)) - 1 = 3 by decide]
            have g1 := sg_g3 ⟨b.toNat, by omega⟩
            have g2 := sg_r3 ⟨b.toNat, by omega⟩
            rw [show ((⟨b.toNat, by omega⟩ : Fin 128).val : Int) = b by show (b.toNat : Int) = b; omega] at g1 g2
            by_cases hs : sgS b 3 = 0 ∨ sgS b 3 = -1
            · have hr := g2 hs
              have hr : b < 8 ∨ 120 ≤ b := by simp only at hr; omega
              rw [if_neg (show ¬ (((4 : Nat) : Int) = sgK 32 - 1 ∧ ¬ sgG 32 ((4 : Nat) : Int) b) from fun q => q.2 ⟨by omega, g1.mpr hs⟩), if_pos hs, sg_eq (by decide) (by omega) (by omega) hv]
              refine Or.inl ⟨a + 1, _, rfl, rfl, by omega, by omega, fun _ => ?_⟩
              rw [sgC_int (by decide) (by omega) (by omega) hv]
              simp only [Nat.reduceMul, Int.reducePow, Nat.reducePow] at hv ⊢
              split <;> omega
            · rw [if_pos (show (((4 : Nat) : Int) = sgK 32 - 1 ∧ ¬ sgG 32 ((4 : Nat) : Int) b) from ⟨hl, fun q => hs (g1.mp q.2)⟩), if_neg hs]
              exact Or.inr ⟨_, a + 1, _, rfl, rfl, by omega, by omega⟩
          · have hk9 : k = 9 := by omega
            subst hk9
            rw [show mnZ 7 (64 - 7 * ((9 : Nat) : Int)) - 1 = 0 by decide]
            have g1 := sg_g0 ⟨b.toNat, by omega⟩
            have g2 := sg_r0 ⟨b.toNat, by omega⟩
            rw [show ((⟨b.toNat, by omega⟩ : Fin 128).val : Int) = b by show (b.toNat : Int) = b; omega] at g1 g2
            by_cases hs : sgS b 0 = 0 ∨ sgS b 0 = -1
            · have hr := g2 hs
              have hr : b = 0 ∨ b = 127 := by simp only at hr; omega
              rw [if_neg (show ¬ (((9 : Nat) : Int) = sgK 64 - 1 ∧ ¬ sgG 64 ((9 : Nat) : Int) b) from fun q => q.2 ⟨by omega, g1.mpr hs⟩), if_pos hs]
              have e : sgM v b ((9 : Nat) : Int) = sgC v b ((9 : Nat) : Int) := by
                rcases hr with rfl | rfl
                · exact (sg_last v).1
                · exact (sg_last v).2
              rw [e]
              exact Or.inl ⟨a + 1, _, rfl, rfl, by omega, by omega, fun q => absurd q (by decide)⟩
            · rw [if_pos (show (((9 : Nat) : Int) = sgK 64 - 1 ∧ ¬ sgG 64 ((9 : Nat) : Int) b) from ⟨hl, fun q => hs (g1.mp q.2)⟩), if_neg hs]
              exact Or.inr ⟨_, a + 1, _, rfl, rfl, by omega, by omega⟩
        · have hk8 : k ≤ 8 := by omega
          have hm : mnZ 7 (bits - 7 * (k : Int)) - 1 = 6 := by unfold mnZ; rw [if_neg (by omega)]; rfl
          have g := sg_g6 ⟨b.toNat, by omega⟩
          rw [show ((⟨b.toNat, by omega⟩ : Fin 128).val : Int) = b by show (b.toNat : Int) = b; omega] at g
          rw [if_neg (show ¬ ((k : Int) = sgK bits - 1 ∧ ¬ sgG bits k b) from fun q => hl q.1), hm, if_pos g, sg_eq hk8 (by omega) (by omega) hv]
          refine Or.inl ⟨a + 1, _, rfl, rfl, by omega, by omega, fun hb32 => ?_⟩
          rw [sgC_int hk8 (by omega) (by omega) hv]
          have hk3 : k ≤ 3 := by omega
          rcases (show k = 0 ∨ k = 1 ∨ k = 2 ∨ k = 3 by omega) with rfl | rfl | rfl | rfl <;> simp only [Nat.mul_zero, Nat.reduceMul, Int.reducePow, Nat.reducePow] at hv ⊢ <;> (split <;> omega)
    · obtain ⟨w, hw⟩ := ss_out (fu := fu) (n2 := n2) (f := f) (a := a) (L := L) (bits := bits) (k := 7 * k) (v := v) (b := false) (Or.inr (by omega)) (by omega) (by omega) hb
      exact Or.inr ⟨_, a, w, ms_out (by omega) (by omega), hw, by omega, h1⟩
theorem pr_sg {fu : Nat} {f : Nat → Int32} {a L r n bits : Int} (hb : bits = 32 ∨ bits = 64) (hfu : 10 < fu) (h0 : 0 ≤ a) (h1 : a ≤ L) (h3 : L ≤ 2000) : PrR 1 a L f r (f_Mo_signed fu r (KMc.mk a L) (KMt.mk f n) bits) (f_So_signed fu (KSo.mk a L false f) bits) (fun b v => b = v ∧ (bits = 32 → R32 v.toInt)) (fun _ => True) := by
  have hB := sg_bK hb
  have e : f_Mo_signed fu r (KMc.mk a L) (KMt.mk f n) bits = L14_Mo_signed fu (KMt.mk f n) bits fu r (KMc.mk a L) 0 0 := by
    unfold f_Mo_signed
    rw [if_pos (by omega)]
  rw [e]
  rcases lp_sg (fu := fu) (f := f) (r := r) (n := n) h3 hb (sgK bits).toNat 0 a 0 fu fu (by omega) h0 h1 (by decide) (by omega) (by omega) with ⟨q, w, e1, e2, e3, e4, e5⟩ | ⟨c, q, w, e1, e2, e3, e4⟩
  · exact Or.inl ⟨q, w, w, e1, e2, by omega, e4, rfl, e5⟩
  · exact Or.inr ⟨c, q, w, e1, e2, e3, e4, trivial⟩
theorem so_sgD {fu : Nat} {f : Nat → Int32} {a L bits : Int} (hb : bits = 32 ∨ bits = 64) (hfu : 0 < fu) : ∃ w, f_So_signed fu (KSo.mk a L true f) bits = .ret (KSo.mk a L true f, w) := by
  obtain ⟨g, rfl⟩ : ∃ g, fu = g + 1 := ⟨fu - 1, by omega⟩
  exact ss_out (Or.inl rfl) (by decide) (by omega) hb
