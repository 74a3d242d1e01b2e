/-! RUN: numbers: ones counted, all at once -/
/-- how many of the first n are true -/
def pcf (f : Nat → Bool) : Nat → Nat
  | 0 => 0
  | n + 1 => pcf f n + (if f n = true then 1 else 0)
set_option maxRecDepth 20000 in
theorem pcf_cg {f g : Nat → Bool} : ∀ {n : Nat}, (∀ i, i < n → f i = g i) → pcf f n = pcf g n
  | 0, _ => rfl
  | n + 1, h => by
    show pcf f n + _ = pcf g n + _
    rw [pcf_cg (n := n) (fun i hi => h i (by omega)), h n (by omega)]
set_option maxRecDepth 20000 in
theorem pcf_le (f : Nat → Bool) : ∀ n : Nat, pcf f n ≤ n
  | 0 => Nat.le_refl 0
  | n + 1 => by
    have := pcf_le f n
    show pcf f n + _ ≤ n + 1
    split <;> omega
set_option maxRecDepth 20000 in
theorem pcf_add (f : Nat → Bool) (m : Nat) : ∀ n : Nat, pcf f (m + n) = pcf f m + pcf (fun i => f (m + i)) n
  | 0 => rfl
  | n + 1 => by
    show pcf f (m + n) + _ = pcf f m + (pcf (fun i => f (m + i)) n + _)
    rw [pcf_add f m n, Nat.add_assoc]
    rfl
set_option maxRecDepth 20000 in
theorem pcf_lt (t : Nat) : ∀ n : Nat, pcf (fun i => decide (i < t)) n = if n ≤ t then n else t
  | 0 => by rw [if_pos (Nat.zero_le t)]; rfl
  | n + 1 => by
    show pcf (fun i => decide (i < t)) n + (if decide (n < t) = true then 1 else 0) = _
    rw [pcf_lt t n]
    by_cases c : n < t
    · rw [if_pos (show n ≤ t by omega), if_pos (decide_eq_true c), if_pos (by omega)]
    · rw [if_neg (show ¬ decide (n < t) = true by rw [decide_eq_true_eq]; exact c), if_neg (show ¬ n + 1 ≤ t by omega)]
      by_cases c2 : n ≤ t
      · rw [if_pos c2]; omega
      · rw [if_neg c2]; rfl
set_option maxRecDepth 20000 in
theorem pcf_ge (t : Nat) : ∀ n : Nat, pcf (fun i => !decide (i < t)) n = n - t
  | 0 => by show 0 = 0 - t; omega
  | n + 1 => by
    show pcf (fun i => !decide (i < t)) n + (if (!decide (n < t)) = true then 1 else 0) = _
    rw [pcf_ge t n]
    by_cases c : n < t
    · rw [decide_eq_true c]; show n - t + 0 = _; omega
    · rw [decide_eq_false c]; show n - t + 1 = _; omega
/-- byte by byte -/
def rep (f : Nat → Nat) : Nat → Nat → Nat
  | 0, _ => 0
  | n + 1, x => f (x % 256) + 256 * rep f n (x / 256)
/-- the byte m, n times -/
def rpm (m : Nat) : Nat → Nat
  | 0 => 0
  | n + 1 => m + 256 * rpm m n
set_option maxRecDepth 20000 in
theorem and_sp {b m : Nat} (hb : b < 256) (hm : m < 256) (y M : Nat) : (256 * y + b) &&& (256 * M + m) = 256 * (y &&& M) + (b &&& m) := by
  have h1 : b < 2 ^ 8 := hb
  have h2 : m < 2 ^ 8 := hm
  have h3 : b &&& m < 2 ^ 8 := Nat.lt_of_le_of_lt Nat.and_le_left hb
  apply Nat.eq_of_testBit_eq
  intro i
  have e : ∀ a c : Nat, 256 * a + c = 2 ^ 8 * a + c := fun _ _ => rfl
  rw [Nat.testBit_and, e, e, e, Nat.testBit_two_pow_mul_add _ h1, Nat.testBit_two_pow_mul_add _ h2, Nat.testBit_two_pow_mul_add _ h3]
  by_cases c : i < 8
  · rw [if_pos c, if_pos c, if_pos c, Nat.testBit_and]
  · rw [if_neg c, if_neg c, if_neg c, Nat.testBit_and]
set_option maxRecDepth 20000 in
theorem rep_le {f : Nat → Nat} {m : Nat} (h : ∀ b, b < 256 → f b ≤ m) : ∀ n x : Nat, rep f n x ≤ rpm m n
  | 0, _ => Nat.le_refl 0
  | n + 1, x => by
    have h1 := rep_le h n (x / 256)
    have h2 := h (x % 256) (by omega)
    show f (x % 256) + 256 * rep f n (x / 256) ≤ m + 256 * rpm m n
    omega
set_option maxRecDepth 20000 in
theorem rep_comp {f g : Nat → Nat} (h : ∀ b, b < 256 → g b < 256) : ∀ n x : Nat, rep f n (rep g n x) = rep (fun b => f (g b)) n x
  | 0, _ => rfl
  | n + 1, x => by
    have h2 := h (x % 256) (by omega)
    show f ((g (x % 256) + 256 * rep g n (x / 256)) % 256) + 256 * rep f n ((g (x % 256) + 256 * rep g n (x / 256)) / 256) = f (g (x % 256)) + 256 * rep (fun b => f (g b)) n (x / 256)
    rw [show (g (x % 256) + 256 * rep g n (x / 256)) % 256 = g (x % 256) by omega, show (g (x % 256) + 256 * rep g n (x / 256)) / 256 = rep g n (x / 256) by omega, rep_comp h n (x / 256)]
abbrev wb1 (b : Nat) : Nat := b - (b / 2 &&& 85)
abbrev wb2 (b : Nat) : Nat := (b &&& 51) + (b / 4 &&& 51)
abbrev wb12 (b : Nat) : Nat := wb2 (wb1 b)
abbrev wb3 (b : Nat) : Nat := (wb12 b + wb12 b / 16) % 16
set_option maxRecDepth 20000 in
theorem w_a : ∀ (b : Fin 256) (t : Fin 2), (128 * t.val + b.val / 2) &&& 85 = b.val / 2 &&& 85 ∧ (b.val / 2 &&& 85) ≤ b.val := by decide +kernel
set_option maxRecDepth 20000 in
theorem w_b : ∀ (b : Fin 256) (t : Fin 4), (64 * t.val + b.val / 4) &&& 51 = b.val / 4 &&& 51 := by decide +kernel
set_option maxRecDepth 20000 in
theorem w_c : ∀ b : Fin 256, wb1 b.val < 256 ∧ wb2 b.val < 256 ∧ wb12 b.val % 16 ≤ 4 ∧ wb12 b.val ≤ 68 ∧ wb3 b.val = pcf b.val.testBit 8 := by decide +kernel
set_option maxRecDepth 20000 in
theorem stA : ∀ n x : Nat, x < 256 ^ n → x - (x / 2 &&& rpm 85 n) = rep wb1 n x
  | 0, x, h => by
    have : x = 0 := by rw [Nat.pow_zero] at h; omega
    subst this; rfl
  | n + 1, x, h => by
    have ih := stA n (x / 256) (by rw [Nat.pow_succ] at h; omega)
    obtain ⟨k1, k2⟩ := w_a ⟨x % 256, by omega⟩ ⟨x / 256 % 2, by omega⟩
    dsimp only at k1 k2
    have e : x / 2 &&& rpm 85 (n + 1) = 256 * (x / 256 / 2 &&& rpm 85 n) + (x % 256 / 2 &&& 85) := by
      rw [show x / 2 = 256 * (x / 256 / 2) + (128 * (x / 256 % 2) + x % 256 / 2) by omega, show rpm 85 (n + 1) = 256 * rpm 85 n + 85 from Nat.add_comm _ _, and_sp (by omega) (by decide), k1]
    have h3 : x / 256 / 2 &&& rpm 85 n ≤ x / 256 / 2 := Nat.and_le_left
    rw [e]
    show _ = (x % 256 - (x % 256 / 2 &&& 85)) + 256 * rep wb1 n (x / 256)
    rw [← ih]
    generalize x / 256 / 2 &&& rpm 85 n = Y at h3 ⊢
    generalize x % 256 / 2 &&& 85 = Z at k2 ⊢
    omega
set_option maxRecDepth 20000 in
theorem stB : ∀ n x : Nat, x < 256 ^ n → (x &&& rpm 51 n) + (x / 4 &&& rpm 51 n) = rep wb2 n x
  | 0, x, h => by
    have : x = 0 := by rw [Nat.pow_zero] at h; omega
    subst this; rfl
  | n + 1, x, h => by
    have ih := stB n (x / 256) (by rw [Nat.pow_succ] at h; omega)
    have k1 := w_b ⟨x % 256, by omega⟩ ⟨x / 256 % 4, by omega⟩
    dsimp only at k1
    have e : x / 4 &&& rpm 51 (n + 1) = 256 * (x / 256 / 4 &&& rpm 51 n) + (x % 256 / 4 &&& 51) := by
      rw [show x / 4 = 256 * (x / 256 / 4) + (64 * (x / 256 % 4) + x % 256 / 4) by omega, show rpm 51 (n + 1) = 256 * rpm 51 n + 51 from Nat.add_comm _ _, and_sp (by omega) (by decide), k1]
    have e2 : x &&& rpm 51 (n + 1) = 256 * (x / 256 &&& rpm 51 n) + (x % 256 &&& 51) := by
      rw [show rpm 51 (n + 1) = 256 * rpm 51 n + 51 from Nat.add_comm _ _, ← and_sp (by omega) (by decide), show 256 * (x / 256) + x % 256 = x by omega]
    rw [e, e2]
    show _ = ((x % 256 &&& 51) + (x % 256 / 4 &&& 51)) + 256 * rep wb2 n (x / 256)
    rw [← ih]
    omega
set_option maxRecDepth 20000 in
theorem stC : ∀ n x : Nat, (rep wb12 n x + rep wb12 n x / 16) &&& rpm 15 n = rep wb3 n x ∧ rep wb12 n x % 16 ≤ 4
  | 0, x => ⟨by show (0 + 0 / 16) &&& 0 = 0; decide, by show 0 % 16 ≤ 4; decide⟩
  | n + 1, x => by
    obtain ⟨ih, i2⟩ := stC n (x / 256)
    obtain ⟨k1, k2, k3, k4, k5⟩ := w_c ⟨x % 256, by omega⟩
    dsimp only at k1 k2 k3 k4
    have hr : rep wb12 (n + 1) x = wb12 (x % 256) + 256 * rep wb12 n (x / 256) := rfl
    have hr3 : rep wb3 (n + 1) x = (wb12 (x % 256) + wb12 (x % 256) / 16) % 16 + 256 * rep wb3 n (x / 256) := rfl
    rw [hr, hr3, ← ih]
    generalize wb12 (x % 256) = c at k3 k4 ⊢
    generalize rep wb12 n (x / 256) = y at i2 ⊢
    refine ⟨?_, by omega⟩
    rw [show c + 256 * y + (c + 256 * y) / 16 = 256 * (y + y / 16) + (16 * (y % 16) + c + c / 16) by omega, show rpm 15 (n + 1) = 256 * rpm 15 n + 15 from Nat.add_comm _ _, and_sp (by omega) (by decide), show (16 * (y % 16) + c + c / 16) &&& 15 = (16 * (y % 16) + c + c / 16) % 16 from Nat.and_two_pow_sub_one_eq_mod _ 4]
    omega
/-- ones, byte by byte -/
def ds : Nat → Nat → Nat
  | 0, _ => 0
  | n + 1, x => wb3 (x % 256) + ds n (x / 256)
set_option maxRecDepth 20000 in
theorem ds_pcf : ∀ n x : Nat, ds n x = pcf x.testBit (8 * n)
  | 0, _ => rfl
  | n + 1, x => by
    show wb3 (x % 256) + ds n (x / 256) = _
    rw [(w_c ⟨x % 256, by omega⟩).2.2.2.2, ds_pcf n (x / 256), show 8 * (n + 1) = 8 + 8 * n by omega, pcf_add]
    refine congr (congrArg _ (pcf_cg fun i hi => ?_)) (pcf_cg fun i hi => ?_)
    · show (x % 2 ^ 8).testBit i = _
      rw [Nat.testBit_mod_two_pow, decide_eq_true hi, Bool.true_and]
    · show (x / 2 ^ 8).testBit i = _
      rw [Nat.testBit_div_two_pow, Nat.add_comm]
set_option maxRecDepth 20000 in
theorem wb3_le (b : Nat) (h : b < 256) : wb3 b ≤ 8 := by
  rw [(w_c ⟨b, h⟩).2.2.2.2]; exact pcf_le _ 8
set_option maxRecDepth 20000 in
theorem dv (d r T : Nat) (h : r < d) : (r + d * T) / d = T := by
  rw [Nat.add_mul_div_left _ _ (by omega), Nat.div_eq_of_lt h, Nat.zero_add]
set_option maxRecDepth 20000 in
theorem md (d r T : Nat) (h : r < d) : (r + d * T) % d = r := by
  rw [Nat.add_mul_mod_self_left, Nat.mod_eq_of_lt h]
set_option maxRecDepth 20000 in
theorem fin32 {c1 c2 c3 c4 : Nat} (d1 : c1 ≤ 8) (d2 : c2 ≤ 8) (d3 : c3 ≤ 8) (d4 : c4 ≤ 8) : ((c1 + c2) + 256 * (c2 + c3) + 65536 * (c3 + c4) + 16777216 * c4 + ((c1 + c2) + 256 * (c2 + c3) + 65536 * (c3 + c4) + 16777216 * c4) / 65536) % 2 ^ 32 % 2 ^ 6 = c1 + (c2 + (c3 + (c4 + 0))) := by
  have e : ((c1 + c2) + 256 * (c2 + c3) + 65536 * (c3 + c4) + 16777216 * c4) / 65536 = (c3 + c4) + 256 * c4 := by
    rw [show (c1 + c2) + 256 * (c2 + c3) + 65536 * (c3 + c4) + 16777216 * c4 = ((c1 + c2) + 256 * (c2 + c3)) + 65536 * ((c3 + c4) + 256 * c4) by omega]
    exact dv _ _ _ (by omega)
  rw [e, Nat.mod_eq_of_lt (show (c1 + c2) + 256 * (c2 + c3) + 65536 * (c3 + c4) + 16777216 * c4 + ((c3 + c4) + 256 * c4) < 2 ^ 32 by omega), show (c1 + c2) + 256 * (c2 + c3) + 65536 * (c3 + c4) + 16777216 * c4 + ((c3 + c4) + 256 * c4) = (c1 + (c2 + (c3 + (c4 + 0)))) + 2 ^ 6 * (4 * (c2 + c3) + 1024 * (c3 + c4) + 262144 * c4 + 4 * c4) by omega]
  exact md (2 ^ 6) _ _ (by omega)
set_option maxRecDepth 20000 in
theorem mid64 {c1 c2 c3 c4 c5 c6 c7 c8 : Nat} (d1 : c1 ≤ 8) (d2 : c2 ≤ 8) (d3 : c3 ≤ 8) (d4 : c4 ≤ 8) (d5 : c5 ≤ 8) (d6 : c6 ≤ 8) (d7 : c7 ≤ 8) (d8 : c8 ≤ 8) : ((c1 + c2) + 256 * ((c2 + c3) + 256 * ((c3 + c4) + 256 * ((c4 + c5) + 256 * ((c5 + c6) + 256 * ((c6 + c7) + 256 * ((c7 + c8) + 256 * c8)))))) + ((c1 + c2) + 256 * ((c2 + c3) + 256 * ((c3 + c4) + 256 * ((c4 + c5) + 256 * ((c5 + c6) + 256 * ((c6 + c7) + 256 * ((c7 + c8) + 256 * c8))))))) / 65536) % 2 ^ 64 = (c1 + c2 + (c3 + c4)) + 256 * ((c2 + c3 + (c4 + c5)) + 256 * ((c3 + c4 + (c5 + c6)) + 256 * ((c4 + c5 + (c6 + c7)) + 256 * ((c5 + c6 + (c7 + c8)) + 256 * ((c6 + c7 + c8) + 256 * ((c7 + c8) + 256 * c8)))))) := by
  have e : ((c1 + c2) + 256 * ((c2 + c3) + 256 * ((c3 + c4) + 256 * ((c4 + c5) + 256 * ((c5 + c6) + 256 * ((c6 + c7) + 256 * ((c7 + c8) + 256 * c8))))))) / 65536 = (c3 + c4) + 256 * ((c4 + c5) + 256 * ((c5 + c6) + 256 * ((c6 + c7) + 256 * ((c7 + c8) + 256 * c8)))) := by
    rw [show (c1 + c2) + 256 * ((c2 + c3) + 256 * ((c3 + c4) + 256 * ((c4 + c5) + 256 * ((c5 + c6) + 256 * ((c6 + c7) + 256 * ((c7 + c8) + 256 * c8)))))) = ((c1 + c2) + 256 * (c2 + c3)) + 65536 * ((c3 + c4) + 256 * ((c4 + c5) + 256 * ((c5 + c6) + 256 * ((c6 + c7) + 256 * ((c7 + c8) + 256 * c8))))) by omega]
    exact dv _ _ _ (by omega)
  rw [e, Nat.mod_eq_of_lt (by omega)]
  omega
set_option maxRecDepth 20000 in
theorem fin64 {e1 e2 e3 e4 e5 e6 e7 e8 : Nat} (d1 : e1 ≤ 32) (d2 : e2 ≤ 32) (d3 : e3 ≤ 32) (d4 : e4 ≤ 32) (d5 : e5 ≤ 32) (d6 : e6 ≤ 32) (d7 : e7 ≤ 32) (d8 : e8 ≤ 32) : (e1 + 256 * (e2 + 256 * (e3 + 256 * (e4 + 256 * (e5 + 256 * (e6 + 256 * (e7 + 256 * e8)))))) + (e1 + 256 * (e2 + 256 * (e3 + 256 * (e4 + 256 * (e5 + 256 * (e6 + 256 * (e7 + 256 * e8))))))) / 4294967296) % 2 ^ 64 % 2 ^ 32 % 2 ^ 7 = e1 + e5 := by
  have e : (e1 + 256 * (e2 + 256 * (e3 + 256 * (e4 + 256 * (e5 + 256 * (e6 + 256 * (e7 + 256 * e8))))))) / 4294967296 = e5 + 256 * (e6 + 256 * (e7 + 256 * e8)) := by
    rw [show e1 + 256 * (e2 + 256 * (e3 + 256 * (e4 + 256 * (e5 + 256 * (e6 + 256 * (e7 + 256 * e8)))))) = (e1 + 256 * (e2 + 256 * (e3 + 256 * e4))) + 4294967296 * (e5 + 256 * (e6 + 256 * (e7 + 256 * e8))) by omega]
    exact dv _ _ _ (by omega)
  rw [e, Nat.mod_eq_of_lt (show e1 + 256 * (e2 + 256 * (e3 + 256 * (e4 + 256 * (e5 + 256 * (e6 + 256 * (e7 + 256 * e8)))))) + (e5 + 256 * (e6 + 256 * (e7 + 256 * e8))) < 2 ^ 64 by omega), show e1 + 256 * (e2 + 256 * (e3 + 256 * (e4 + 256 * (e5 + 256 * (e6 + 256 * (e7 + 256 * e8)))))) + (e5 + 256 * (e6 + 256 * (e7 + 256 * e8))) = (e1 + e5 + 256 * ((e2 + e6) + 256 * ((e3 + e7) + 256 * (e4 + e8)))) + 2 ^ 32 * (e5 + 256 * (e6 + 256 * (e7 + 256 * e8))) by omega, md (2 ^ 32) _ _ (by omega), show e1 + e5 + 256 * ((e2 + e6) + 256 * ((e3 + e7) + 256 * (e4 + e8))) = e1 + e5 + 2 ^ 7 * (2 * ((e2 + e6) + 256 * ((e3 + e7) + 256 * (e4 + e8)))) by omega]
  exact md (2 ^ 7) _ _ (by omega)
/-! in words -/
set_option maxRecDepth 20000 in
theorem nsh (x : Int32) {k : Int} {s d : Nat} (h : uI (iI k) % 32 = s) (hd : 2 ^ s = d) : uI ((x.toUInt32 >>> ((iI k).toUInt32 &&& Int32.toUInt32 31)).toInt32) = uI x / d := by
  rw [and31u, h, uI_shr x (by omega), hd]
set_option maxRecDepth 20000 in
theorem ush (x : Int64) {k : Int} {s d : Nat} (h : uL ((iI k).toInt64) % 64 = s) (hd : 2 ^ s = d) : uL ((x.toUInt64 >>> ((iI k).toInt64.toUInt64 &&& Int64.toUInt64 63)).toInt64) = uL x / d := by
  rw [and63u, h, uL_shr x (by omega), hd]
set_option maxRecDepth 20000 in
theorem bc32 (v : Int32) : f_J_Integer_bitCount v = .ret (sI (pcf (uI v).testBit 32)) := by
  unfold f_J_Integer_bitCount
  have h0 := uI_lt v
  have a1 : uI (v - (((v.toUInt32 >>> ((iI 1).toUInt32 &&& Int32.toUInt32 31)).toInt32) &&& (iI 1431655765))) = rep wb1 4 (uI v) := by
    rw [uI_sub, uI_and, nsh v (s := 1) (d := 2) (by decide) (by decide), show uI (iI 1431655765) = rpm 85 4 by decide, ← stA 4 (uI v) h0]
    have h2 : uI v / 2 &&& rpm 85 4 ≤ uI v / 2 := Nat.and_le_left
    generalize uI v / 2 &&& rpm 85 4 = Y at h2 ⊢
    omega
  generalize v - (((v.toUInt32 >>> ((iI 1).toUInt32 &&& Int32.toUInt32 31)).toInt32) &&& (iI 1431655765)) = v1 at a1 ⊢
  have a2 : uI ((v1 &&& (iI 858993459)) + (((v1.toUInt32 >>> ((iI 2).toUInt32 &&& Int32.toUInt32 31)).toInt32) &&& (iI 858993459))) = rep wb12 4 (uI v) := by
    rw [uI_add, uI_and, uI_and, nsh v1 (s := 2) (d := 4) (by decide) (by decide), show uI (iI 858993459) = rpm 51 4 by decide, stB 4 (uI v1) (uI_lt v1), a1, rep_comp (fun b hb => (w_c ⟨b, hb⟩).1)]
    have h3 := rep_le (f := wb12) (m := 68) (fun b hb => (w_c ⟨b, hb⟩).2.2.2.1) 4 (uI v)
    rw [show rpm 68 4 = 1145324612 by decide] at h3
    show rep wb12 4 (uI v) % 2 ^ 32 = rep wb12 4 (uI v)
    exact Nat.mod_eq_of_lt (by omega)
  generalize (v1 &&& (iI 858993459)) + (((v1.toUInt32 >>> ((iI 2).toUInt32 &&& Int32.toUInt32 31)).toInt32) &&& (iI 858993459)) = v2 at a2 ⊢
  have a3 : uI ((v2 + ((v2.toUInt32 >>> ((iI 4).toUInt32 &&& Int32.toUInt32 31)).toInt32)) &&& (iI 252645135)) = rep wb3 4 (uI v) := by
    have h3 := rep_le (f := wb12) (m := 68) (fun b hb => (w_c ⟨b, hb⟩).2.2.2.1) 4 (uI v)
    rw [show rpm 68 4 = 1145324612 by decide] at h3
    rw [uI_and, uI_add, nsh v2 (s := 4) (d := 16) (by decide) (by decide), show uI (iI 252645135) = rpm 15 4 by decide, a2, Nat.mod_eq_of_lt (by omega)]
    exact (stC 4 (uI v)).1
  generalize (v2 + ((v2.toUInt32 >>> ((iI 4).toUInt32 &&& Int32.toUInt32 31)).toInt32)) &&& (iI 252645135) = v3 at a3 ⊢
  rw [← show ds 4 (uI v) = pcf (uI v).testBit 32 from ds_pcf 4 (uI v)]
  have d1 := wb3_le (uI v % 256) (by omega)
  have d2 := wb3_le (uI v / 256 % 256) (by omega)
  have d3 := wb3_le (uI v / 256 / 256 % 256) (by omega)
  have d4 := wb3_le (uI v / 256 / 256 / 256 % 256) (by omega)
  have e1 : ds 4 (uI v) = wb3 (uI v % 256) + (wb3 (uI v / 256 % 256) + (wb3 (uI v / 256 / 256 % 256) + (wb3 (uI v / 256 / 256 / 256 % 256) + 0))) := rfl
  have e2 : rep wb3 4 (uI v) = wb3 (uI v % 256) + 256 * (wb3 (uI v / 256 % 256) + 256 * (wb3 (uI v / 256 / 256 % 256) + 256 * (wb3 (uI v / 256 / 256 / 256 % 256) + 256 * 0))) := rfl
  rw [e2] at a3
  rw [e1]
  generalize wb3 (uI v % 256) = c1 at d1 a3 ⊢
  generalize wb3 (uI v / 256 % 256) = c2 at d2 a3 ⊢
  generalize wb3 (uI v / 256 / 256 % 256) = c3 at d3 a3 ⊢
  generalize wb3 (uI v / 256 / 256 / 256 % 256) = c4 at d4 a3 ⊢
  have a4 : uI (v3 + ((v3.toUInt32 >>> ((iI 8).toUInt32 &&& Int32.toUInt32 31)).toInt32)) = (c1 + c2) + 256 * (c2 + c3) + 65536 * (c3 + c4) + 16777216 * c4 := by
    rw [uI_add, nsh v3 (s := 8) (d := 256) (by decide) (by decide), a3]
    omega
  generalize v3 + ((v3.toUInt32 >>> ((iI 8).toUInt32 &&& Int32.toUInt32 31)).toInt32) = v4 at a4 ⊢
  refine congrArg _ (uI_inj ?_)
  rw [uI_sI (by omega), uI_and, uI_add, nsh v4 (s := 16) (d := 65536) (by decide) (by decide), a4, show uI (iI 63) = 2 ^ 6 - 1 by decide, Nat.and_two_pow_sub_one_eq_mod]
  exact fin32 d1 d2 d3 d4
set_option maxRecDepth 20000 in
theorem bc64 (v : Int64) : f_J_Long_bitCount v = .ret (sI (pcf (uL v).testBit 64)) := by
  unfold f_J_Long_bitCount
  have h0 := uL_lt v
  have a1 : uL (v - (((v.toUInt64 >>> ((iI 1).toInt64.toUInt64 &&& Int64.toUInt64 63)).toInt64) &&& 6148914691236517205)) = rep wb1 8 (uL v) := by
    rw [uL_sub, uL_and, ush v (s := 1) (d := 2) (by decide) (by decide), show uL 6148914691236517205 = rpm 85 8 by decide, ← stA 8 (uL v) h0]
    have h2 : uL v / 2 &&& rpm 85 8 ≤ uL v / 2 := Nat.and_le_left
    generalize uL v / 2 &&& rpm 85 8 = Y at h2 ⊢
    omega
  generalize v - (((v.toUInt64 >>> ((iI 1).toInt64.toUInt64 &&& Int64.toUInt64 63)).toInt64) &&& 6148914691236517205) = v1 at a1 ⊢
  have a2 : uL ((v1 &&& 3689348814741910323) + (((v1.toUInt64 >>> ((iI 2).toInt64.toUInt64 &&& Int64.toUInt64 63)).toInt64) &&& 3689348814741910323)) = rep wb12 8 (uL v) := by
    rw [uL_add, uL_and, uL_and, ush v1 (s := 2) (d := 4) (by decide) (by decide), show uL 3689348814741910323 = rpm 51 8 by decide, stB 8 (uL v1) (uL_lt v1), a1, rep_comp (fun b hb => (w_c ⟨b, hb⟩).1)]
    have h3 := rep_le (f := wb12) (m := 68) (fun b hb => (w_c ⟨b, hb⟩).2.2.2.1) 8 (uL v)
    rw [show rpm 68 8 = 4919131752989213764 by decide] at h3
    show rep wb12 8 (uL v) % 2 ^ 64 = rep wb12 8 (uL v)
    exact Nat.mod_eq_of_lt (by omega)
  generalize (v1 &&& 3689348814741910323) + (((v1.toUInt64 >>> ((iI 2).toInt64.toUInt64 &&& Int64.toUInt64 63)).toInt64) &&& 3689348814741910323) = v2 at a2 ⊢
  have a3 : uL ((v2 + ((v2.toUInt64 >>> ((iI 4).toInt64.toUInt64 &&& Int64.toUInt64 63)).toInt64)) &&& 1085102592571150095) = rep wb3 8 (uL v) := by
    have h3 := rep_le (f := wb12) (m := 68) (fun b hb => (w_c ⟨b, hb⟩).2.2.2.1) 8 (uL v)
    rw [show rpm 68 8 = 4919131752989213764 by decide] at h3
    rw [uL_and, uL_add, ush v2 (s := 4) (d := 16) (by decide) (by decide), show uL 1085102592571150095 = rpm 15 8 by decide, a2, Nat.mod_eq_of_lt (by omega)]
    exact (stC 8 (uL v)).1
  generalize (v2 + ((v2.toUInt64 >>> ((iI 4).toInt64.toUInt64 &&& Int64.toUInt64 63)).toInt64)) &&& 1085102592571150095 = v3 at a3 ⊢
  rw [← show ds 8 (uL v) = pcf (uL v).testBit 64 from ds_pcf 8 (uL v)]
  have d1 := wb3_le (uL v % 256) (by omega)
  have d2 := wb3_le (uL v / 256 % 256) (by omega)
  have d3 := wb3_le (uL v / 256 / 256 % 256) (by omega)
  have d4 := wb3_le (uL v / 256 / 256 / 256 % 256) (by omega)
  have d5 := wb3_le (uL v / 256 / 256 / 256 / 256 % 256) (by omega)
  have d6 := wb3_le (uL v / 256 / 256 / 256 / 256 / 256 % 256) (by omega)
  have d7 := wb3_le (uL v / 256 / 256 / 256 / 256 / 256 / 256 % 256) (by omega)
  have d8 := wb3_le (uL v / 256 / 256 / 256 / 256 / 256 / 256 / 256 % 256) (by omega)
  have e1 : ds 8 (uL v) = wb3 (uL v % 256) + (wb3 (uL v / 256 % 256) + (wb3 (uL v / 256 / 256 % 256) + (wb3 (uL v / 256 / 256 / 256 % 256) + (wb3 (uL v / 256 / 256 / 256 / 256 % 256) + (wb3 (uL v / 256 / 256 / 256 / 256 / 256 % 256) + (wb3 (uL v / 256 / 256 / 256 / 256 / 256 / 256 % 256) + (wb3 (uL v / 256 / 256 / 256 / 256 / 256 / 256 / 256 % 256) + 0))))))) := rfl
  have e2 : rep wb3 8 (uL v) = wb3 (uL v % 256) + 256 * (wb3 (uL v / 256 % 256) + 256 * (wb3 (uL v / 256 / 256 % 256) + 256 * (wb3 (uL v / 256 / 256 / 256 % 256) + 256 * (wb3 (uL v / 256 / 256 / 256 / 256 % 256) + 256 * (wb3 (uL v / 256 / 256 / 256 / 256 / 256 % 256) + 256 * (wb3 (uL v / 256 / 256 / 256 / 256 / 256 / 256 % 256) + 256 * (wb3 (uL v / 256 / 256 / 256 / 256 / 256 / 256 / 256 % 256) + 256 * 0))))))) := rfl
  rw [e2] at a3
  rw [e1]
  generalize wb3 (uL v % 256) = c1 at d1 a3 ⊢
  generalize wb3 (uL v / 256 % 256) = c2 at d2 a3 ⊢
  generalize wb3 (uL v / 256 / 256 % 256) = c3 at d3 a3 ⊢
  generalize wb3 (uL v / 256 / 256 / 256 % 256) = c4 at d4 a3 ⊢
  generalize wb3 (uL v / 256 / 256 / 256 / 256 % 256) = c5 at d5 a3 ⊢
  generalize wb3 (uL v / 256 / 256 / 256 / 256 / 256 % 256) = c6 at d6 a3 ⊢
  generalize wb3 (uL v / 256 / 256 / 256 / 256 / 256 / 256 % 256) = c7 at d7 a3 ⊢
  generalize wb3 (uL v / 256 / 256 / 256 / 256 / 256 / 256 / 256 % 256) = c8 at d8 a3 ⊢
  have a4 : uL (v3 + ((v3.toUInt64 >>> ((iI 8).toInt64.toUInt64 &&& Int64.toUInt64 63)).toInt64)) = (c1 + c2) + 256 * ((c2 + c3) + 256 * ((c3 + c4) + 256 * ((c4 + c5) + 256 * ((c5 + c6) + 256 * ((c6 + c7) + 256 * ((c7 + c8) + 256 * c8)))))) := by
    rw [uL_add, ush v3 (s := 8) (d := 256) (by decide) (by decide), a3]
    omega
  generalize v3 + ((v3.toUInt64 >>> ((iI 8).toInt64.toUInt64 &&& Int64.toUInt64 63)).toInt64) = v4 at a4 ⊢
  have a5 : uL (v4 + ((v4.toUInt64 >>> ((iI 16).toInt64.toUInt64 &&& Int64.toUInt64 63)).toInt64)) = (c1 + c2 + (c3 + c4)) + 256 * ((c2 + c3 + (c4 + c5)) + 256 * ((c3 + c4 + (c5 + c6)) + 256 * ((c4 + c5 + (c6 + c7)) + 256 * ((c5 + c6 + (c7 + c8)) + 256 * ((c6 + c7 + c8) + 256 * ((c7 + c8) + 256 * c8)))))) := by
    rw [uL_add, ush v4 (s := 16) (d := 65536) (by decide) (by decide), a4]
    exact mid64 d1 d2 d3 d4 d5 d6 d7 d8
  generalize v4 + ((v4.toUInt64 >>> ((iI 16).toInt64.toUInt64 &&& Int64.toUInt64 63)).toInt64) = v5 at a5 ⊢
  refine congrArg _ (uI_inj ?_)
  rw [uI_sI (by omega), uI_and, uI_l, uL_add, ush v5 (s := 32) (d := 4294967296) (by decide) (by decide), a5, show uI (iI 127) = 2 ^ 7 - 1 by decide, Nat.and_two_pow_sub_one_eq_mod, fin64 (by omega) (by omega) (by omega) (by omega) (by omega) (by omega) (by omega) (by omega)]
  omega
