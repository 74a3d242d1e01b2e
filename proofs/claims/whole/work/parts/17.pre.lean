/-! numbers, truths and outcomes of the functions that dec.py writes -/
def bI (b : Bool) : Int32 := if b = true then 1 else 0
theorem bI_nar (b : Bool) : narrow .boolean (.int (bI b)) = .int (bI b) := by cases b <;> rfl
theorem bI_fit (b : Bool) : fits .boolean (.int (bI b)) = true := by cases b <;> rfl
def Out (τ α : Type) : Type := Option (α ⊕ τ)
def Out.ret {τ α : Type} (a : α) : Out τ α := some (.inl a)
def Out.thr {τ α : Type} (t : τ) : Out τ α := some (.inr t)
def Out.bad {τ α : Type} : Out τ α := none
def Out.on {τ α γ : Type} (x : Out τ α) (f : α → γ) (g : τ → γ) (b : γ) : γ := Option.elim x b (Sum.elim f g)
theorem Out.cs {τ α : Type} {P : Out τ α → Prop} (x : Out τ α) (h1 : ∀ a, P (.ret a)) (h2 : ∀ t, P (.thr t)) (h3 : P .bad) : P x := by
  cases x with
  | none => exact h3
  | some q => cases q with
    | inl a => exact h1 a
    | inr t => exact h2 t
def obind {τ α β : Type} (x : Out Empty α) (k : α → Out τ β) : Out τ β := x.on k (fun t => t.elim) .bad
def obind2 {σ τ α β : Type} (x : Out σ α) (k : α → Out τ β) (g : σ → Out τ β) : Out τ β := x.on k g .bad
/-- a place where roads meet: its rest as a function -/
def jp {α β : Type} (k : α) (f : α → β) : β := f k
def ozp {τ α : Type} (R : Out τ α) (f : α → Prop) (g : τ → Prop) : Prop := Option.elim R False (Sum.elim f g)
theorem ret_nb {τ α : Type} {a : α} : (Out.ret a : Out τ α) ≠ .bad := fun h => Option.some_ne_none _ h
theorem thr_nb {τ α : Type} {t : τ} : (Out.thr t : Out τ α) ≠ .bad := fun h => Option.some_ne_none _ h
theorem ret_inj {τ α : Type} {a b : α} (h : (Out.ret a : Out τ α) = .ret b) : a = b := Sum.inl.inj (Option.some.inj h)
theorem thr_inj {τ α : Type} {a b : τ} (h : (Out.thr a : Out τ α) = .thr b) : a = b := Sum.inr.inj (Option.some.inj h)
theorem ret_thr {τ α : Type} {a : α} {t : τ} (h : (Out.ret a : Out τ α) = .thr t) : False := by cases Option.some.inj h
theorem obind_ret {τ α β : Type} (a : α) (k : α → Out τ β) : obind (.ret a) k = k a := rfl
theorem obind_bad {τ α β : Type} (k : α → Out τ β) : obind .bad k = .bad := rfl
theorem obind2_ret {σ τ α β : Type} (a : α) (k : α → Out τ β) (g : σ → Out τ β) : obind2 (.ret a) k g = k a := rfl
theorem obind2_thr {σ τ α β : Type} (t : σ) (k : α → Out τ β) (g : σ → Out τ β) : obind2 (.thr t) k g = g t := rfl
theorem obind2_bad {σ τ α β : Type} (k : α → Out τ β) (g : σ → Out τ β) : obind2 .bad k g = .bad := rfl
theorem obE {τ α β : Type} {x : Out Empty α} {k : α → Out τ β} {R : Out τ β} (hn : R ≠ .bad) (h : obind x k = R) : ∃ a, x = .ret a ∧ k a = R :=
  Out.cs (P := fun x => obind x k = R → ∃ a, x = .ret a ∧ k a = R) x (fun a h => ⟨a, rfl, h⟩) (fun t => t.elim) (fun h => absurd h.symm hn) h
theorem ob2 {σ τ α β : Type} {x : Out σ α} {k : α → Out τ β} {g : σ → Out τ β} {R : Out τ β} (hn : R ≠ .bad) (h : obind2 x k g = R) : (∃ a, x = .ret a ∧ k a = R) ∨ (∃ t, x = .thr t ∧ g t = R) :=
  Out.cs (P := fun x => obind2 x k g = R → (∃ a, x = .ret a ∧ k a = R) ∨ (∃ t, x = .thr t ∧ g t = R)) x (fun a h => Or.inl ⟨a, rfl, h⟩) (fun t h => Or.inr ⟨t, rfl, h⟩) (fun h => absurd h.symm hn) h
theorem grd {τ α : Type} {q : Prop} [Decidable q] {x R : Out τ α} (hn : R ≠ .bad) (h : (if q then x else .bad) = R) : q ∧ x = R := by
  by_cases c : q
  · rw [if_pos c] at h; exact ⟨c, h⟩
  · rw [if_neg c] at h; exact absurd h.symm hn
theorem ifp {α : Type} {q : Prop} [Decidable q] {x y R : α} (c : q) (h : (if q then x else y) = R) : x = R := by rw [if_pos c] at h; exact h
theorem ifn {α : Type} {q : Prop} [Decidable q] {x y R : α} (c : ¬ q) (h : (if q then x else y) = R) : y = R := by rw [if_neg c] at h; exact h
theorem jpE {α β : Type} {k : α} {f : α → β} {R : β} {P : Prop} (h : jp k f = R) (kk : ∀ K, K = k → f K = R → P) : P := kk k rfl h
def iI (n : Int) : Int32 := Int32.ofInt n
abbrev R32 (n : Int) : Prop := -2147483648 ≤ n ∧ n ≤ 2147483647
theorem R32_of (x : Int32) : R32 x.toInt := ⟨Int32.le_toInt x, by have := Int32.toInt_lt x; omega⟩
theorem iI_of (x : Int32) : x = iI x.toInt := (Int32.ofInt_toInt x).symm
theorem iI_t {n : Int} (h : R32 n) : (iI n).toInt = n := Int32.toInt_ofInt_of_le (by have := h.1; omega) (by have := h.2; omega)
theorem iI_add (a b : Int) : iI a + iI b = iI (a + b) := (Int32.ofInt_add a b).symm
theorem iI_sub (a b : Int) : iI a - iI b = iI (a - b) := (Int32.ofInt_sub a b).symm
theorem iI_mul (a b : Int) : iI a * iI b = iI (a * b) := (Int32.ofInt_mul a b).symm
theorem iI_neg (a : Int) : -iI a = iI (-a) := (Int32.ofInt_neg a).symm
theorem zc_lt {a b : Int} (ha : R32 a) (hb : R32 b) : iI a < iI b ↔ a < b := by rw [Int32.lt_iff_toInt_lt, iI_t ha, iI_t hb]
theorem zc_le {a b : Int} (ha : R32 a) (hb : R32 b) : iI a ≤ iI b ↔ a ≤ b := by rw [Int32.le_iff_toInt_le, iI_t ha, iI_t hb]
theorem zc_eq {a b : Int} (ha : R32 a) (hb : R32 b) : iI a = iI b ↔ a = b := by rw [← Int32.toInt_inj, iI_t ha, iI_t hb]
theorem iI_clamp {a : Int} (ha : R32 a) : (iI a).toNatClampNeg = a.toNat := by rw [← Int32.toNat_toInt, iI_t ha]
theorem vp_in_iI {a : Int} {N : Nat} (ha : R32 a) (h : 0 ≤ a ∧ a < N) : vp_in (iI a) N := by
  rintro (q | q)
  · have := (zc_lt ha (b := 0) (by decide)).mp q; omega
  · rw [iI_clamp ha] at q; omega
theorem bI_0 : (iI 0) = bI false := by decide
theorem bI_1 : (iI 1) = bI true := by decide
theorem zb_t {b : Bool} (h : ¬ bI b = 0) : b = true := by cases b with
  | true => rfl
  | false => exact absurd (by decide) h
theorem zb_f {b : Bool} (h : bI b = 0) : ¬ b = true := by cases b with
  | true => exact absurd h (by decide)
  | false => decide
def b2z (b : Bool) : Int := if b = true then 1 else 0
theorem bI_z (b : Bool) : bI b = iI (b2z b) := by cases b <;> decide
theorem b2z_R (b : Bool) : R32 (b2z b) := by cases b <;> decide
def updZ (f : Nat → Int) (k : Nat) (x : Int) : Nat → Int := fun j => if j = k then x else f j
def updB (f : Nat → Bool) (k : Nat) (x : Bool) : Nat → Bool := fun j => if j = k then x else f j
theorem updZ_ok {f : Nat → Int} (h : ∀ k, R32 (f k)) {k : Nat} {x : Int} (hx : R32 x) : ∀ j, R32 (updZ f k x j) := fun j => by
  unfold updZ; by_cases c : j = k
  · rw [if_pos c]; exact hx
  · rw [if_neg c]; exact h j
theorem upd_iI (f : Nat → Int) (k : Nat) (x : Int) : upd (fun j => iI (f j)) k (iI x) = fun j => iI (updZ f k x j) := funext fun j => by
  unfold upd updZ; by_cases c : j = k
  · rw [if_pos c, if_pos c]
  · rw [if_neg c, if_neg c]
theorem nar_bI (b : Bool) : vp_nar .boolean (bI b) = bI b := by cases b <;> decide
theorem upd_bI (f : Nat → Bool) (k : Nat) (x : Bool) : upd (fun j => bI (f j)) k (bI x) = fun j => bI (updB f k x j) := funext fun j => by
  unfold upd updB; by_cases c : j = k
  · rw [if_pos c, if_pos c]
  · rw [if_neg c, if_neg c]
/-- a byte without its sign -/
def by8 (x : Int32) : Int := (x &&& 255).toInt
theorem by8_i (x : Int32) : x &&& iI 255 = iI (by8 x) := iI_of _
theorem by8_R (x : Int32) : R32 (by8 x) := R32_of _
theorem lc_gt {a b : Int64} : 0 < lg_cmp a b ↔ b.toInt < a.toInt := (lg_cmp_gt a b).trans Int64.lt_iff_toInt_lt
theorem lc_ge {a b : Int64} : 0 ≤ lg_cmp a b ↔ b.toInt ≤ a.toInt := (lg_cmp_ge a b).trans Int64.le_iff_toInt_le
theorem lc_lt {a b : Int64} : lg_cmp a b < 0 ↔ a.toInt < b.toInt := (lg_cmp_lt a b).trans Int64.lt_iff_toInt_lt
theorem lc_le {a b : Int64} : lg_cmp a b ≤ 0 ↔ a.toInt ≤ b.toInt := (lg_cmp_le a b).trans Int64.le_iff_toInt_le
theorem lc_eq {a b : Int64} : lg_cmp a b = 0 ↔ a = b := lg_cmp_eq a b
theorem zv_lt {x y : Int32} {a b : Int} (hx : x.toInt = a) (hy : y.toInt = b) : x < y ↔ a < b := by rw [Int32.lt_iff_toInt_lt, hx, hy]
theorem zv_le {x y : Int32} {a b : Int} (hx : x.toInt = a) (hy : y.toInt = b) : x ≤ y ↔ a ≤ b := by rw [Int32.le_iff_toInt_le, hx, hy]
theorem zv_eq {x y : Int32} {a b : Int} (hx : x.toInt = a) (hy : y.toInt = b) : x = y ↔ a = b := by rw [← Int32.toInt_inj, hx, hy]
theorem zero_v : (0 : Int32).toInt = 0 := by decide
theorem bI_v (b : Bool) : (bI b).toInt = b2z b := by cases b <;> decide
theorem ob_nb {τ α β : Type} {x : Out Empty α} {k : α → Out τ β} {R : Out τ β} (hn : R ≠ .bad) (h : obind x k = R) : x ≠ .bad := fun q => hn (by subst q; exact h.symm)
theorem ob_nb2 {σ τ α β : Type} {x : Out σ α} {k : α → Out τ β} {g : σ → Out τ β} {R : Out τ β} (hn : R ≠ .bad) (h : obind2 x k g = R) : x ≠ .bad := fun q => hn (by subst q; exact h.symm)
theorem obG {τ α β : Type} {x : Out Empty α} {k : α → Out τ β} {R : Out τ β} {P : Prop} (h : obind x k = R) (kk : ∀ K, K = k → obind x K = R → P) : P := kk k rfl h
theorem obG2 {σ τ α β : Type} {x : Out σ α} {k : α → Out τ β} {g : σ → Out τ β} {R : Out τ β} {P : Prop} (h : obind2 x k g = R) (kk : ∀ K G, K = k → G = g → obind2 x K G = R → P) : P := kk k g rfl rfl h
theorem ozr {τ α : Type} {a : α} {R : Out τ α} {f : α → Prop} {g : τ → Prop} (hf : .ret a = R) (h : f a) : ozp R f g := by subst hf; exact h
theorem ozt {τ α : Type} {t : τ} {R : Out τ α} {f : α → Prop} {g : τ → Prop} (hf : .thr t = R) (h : g t) : ozp R f g := by subst hf; exact h
theorem ob_r {τ α β : Type} {a : α} {x : Out Empty α} {k : α → Out τ β} {R : Out τ β} (hf : .ret a = x) (h : obind x k = R) : k a = R := by subst hf; exact h
theorem ob_r2 {σ τ α β : Type} {a : α} {x : Out σ α} {k : α → Out τ β} {g : σ → Out τ β} {R : Out τ β} (hf : .ret a = x) (h : obind2 x k g = R) : k a = R := by subst hf; exact h
def mnZ (a b : Int) : Int := if b < a then b else a
def mxZ (a b : Int) : Int := if a < b then b else a
def mnL (a b : Int64) : Int64 := if b.toInt < a.toInt then b else a
theorem mnZ_R {a b : Int} (ha : R32 a) (hb : R32 b) : R32 (mnZ a b) := by unfold mnZ; split <;> assumption
theorem mxZ_R {a b : Int} (ha : R32 a) (hb : R32 b) : R32 (mxZ a b) := by unfold mxZ; split <;> assumption
theorem mnZ_i {a b : Int} (ha : R32 a) (hb : R32 b) : (if iI b < iI a then iI b else iI a) = iI (mnZ a b) := by
  unfold mnZ; by_cases h : b < a
  · rw [if_pos h, if_pos ((zc_lt hb ha).mpr h)]
  · rw [if_neg h, if_neg (fun q => h ((zc_lt hb ha).mp q))]
theorem mxZ_i {a b : Int} (ha : R32 a) (hb : R32 b) : (if iI a < iI b then iI b else iI a) = iI (mxZ a b) := by
  unfold mxZ; by_cases h : a < b
  · rw [if_pos h, if_pos ((zc_lt ha hb).mpr h)]
  · rw [if_neg h, if_neg (fun q => h ((zc_lt ha hb).mp q))]
theorem mnL_i (a b : Int64) : (if b < a then b else a) = mnL a b := by
  unfold mnL; by_cases h : b.toInt < a.toInt
  · rw [if_pos h, if_pos (Int64.lt_iff_toInt_lt.mpr h)]
  · rw [if_neg h, if_neg (fun q => h (Int64.lt_iff_toInt_lt.mp q))]
/-- a loop that may end the whole method -/
def obindS {τ α β : Type} (x : Out τ (β ⊕ α)) (k : α → Out τ β) : Out τ β := x.on (Sum.elim (fun r => .ret r) k) (fun t => .thr t) .bad
theorem ob_nbS {τ α β : Type} {x : Out τ (β ⊕ α)} {k : α → Out τ β} {R : Out τ β} (hn : R ≠ .bad) (h : obindS x k = R) : x ≠ .bad := fun q => hn (by subst q; exact h.symm)
theorem obGS {τ α β : Type} {x : Out τ (β ⊕ α)} {k : α → Out τ β} {R : Out τ β} {P : Prop} (h : obindS x k = R) (kk : ∀ K, K = k → obindS x K = R → P) : P := kk k rfl h
/-- rows of rows -/
def upd2 (f : Nat → Nat → Int) (t k : Nat) (x : Int) : Nat → Nat → Int := fun i j => if i = t then updZ (f t) k x j else f i j
theorem upd2_ok {f : Nat → Nat → Int} (h : ∀ i k, R32 (f i k)) {t k : Nat} {x : Int} (hx : R32 x) : ∀ i j, R32 (upd2 f t k x i j) := fun i j => by
  unfold upd2; by_cases c : i = t
  · rw [if_pos c]; exact updZ_ok (h t) hx j
  · rw [if_neg c]; exact h i j
theorem thr_out {τ α β : Type} {t : τ} {x : Out τ α} {K : α → Out τ β} {G : τ → Out τ β} {R : Out τ β} (hf : .thr t = x) (hG : G = fun t => .thr t) (h : obind2 x K G = R) : (.thr t : Out τ β) = R := by subst hf; subst hG; exact h
theorem ob_rS {τ α β : Type} {a : α} {x : Out τ (β ⊕ α)} {k : α → Out τ β} {R : Out τ β} (hf : .ret (.inr a) = x) (h : obindS x k = R) : k a = R := by subst hf; exact h
theorem ob_lS {τ α β : Type} {r : β} {x : Out τ (β ⊕ α)} {k : α → Out τ β} {R : Out τ β} (hf : .ret (.inl r) = x) (h : obindS x k = R) : .ret r = R := by subst hf; exact h
def lMin : Int64 := -9223372036854775808
abbrev rw20 (cI : ClassId) (K : Nat) (r : Nat → Nat) (g : Nat → Nat → Int) : va_W := [(r 0, .inl (cI, K, .inl (fun k9 => iI (g 0 k9)))), (r 1, .inl (cI, K, .inl (fun k9 => iI (g 1 k9)))), (r 2, .inl (cI, K, .inl (fun k9 => iI (g 2 k9)))), (r 3, .inl (cI, K, .inl (fun k9 => iI (g 3 k9)))), (r 4, .inl (cI, K, .inl (fun k9 => iI (g 4 k9)))), (r 5, .inl (cI, K, .inl (fun k9 => iI (g 5 k9)))), (r 6, .inl (cI, K, .inl (fun k9 => iI (g 6 k9)))), (r 7, .inl (cI, K, .inl (fun k9 => iI (g 7 k9)))), (r 8, .inl (cI, K, .inl (fun k9 => iI (g 8 k9)))), (r 9, .inl (cI, K, .inl (fun k9 => iI (g 9 k9)))), (r 10, .inl (cI, K, .inl (fun k9 => iI (g 10 k9)))), (r 11, .inl (cI, K, .inl (fun k9 => iI (g 11 k9)))), (r 12, .inl (cI, K, .inl (fun k9 => iI (g 12 k9)))), (r 13, .inl (cI, K, .inl (fun k9 => iI (g 13 k9)))), (r 14, .inl (cI, K, .inl (fun k9 => iI (g 14 k9)))), (r 15, .inl (cI, K, .inl (fun k9 => iI (g 15 k9)))), (r 16, .inl (cI, K, .inl (fun k9 => iI (g 16 k9)))), (r 17, .inl (cI, K, .inl (fun k9 => iI (g 17 k9)))), (r 18, .inl (cI, K, .inl (fun k9 => iI (g 18 k9)))), (r 19, .inl (cI, K, .inl (fun k9 => iI (g 19 k9))))]
abbrev rw30 (cI : ClassId) (K : Nat) (r : Nat → Nat) (g : Nat → Nat → Int) : va_W := [(r 0, .inl (cI, K, .inl (fun k9 => iI (g 0 k9)))), (r 1, .inl (cI, K, .inl (fun k9 => iI (g 1 k9)))), (r 2, .inl (cI, K, .inl (fun k9 => iI (g 2 k9)))), (r 3, .inl (cI, K, .inl (fun k9 => iI (g 3 k9)))), (r 4, .inl (cI, K, .inl (fun k9 => iI (g 4 k9)))), (r 5, .inl (cI, K, .inl (fun k9 => iI (g 5 k9)))), (r 6, .inl (cI, K, .inl (fun k9 => iI (g 6 k9)))), (r 7, .inl (cI, K, .inl (fun k9 => iI (g 7 k9)))), (r 8, .inl (cI, K, .inl (fun k9 => iI (g 8 k9)))), (r 9, .inl (cI, K, .inl (fun k9 => iI (g 9 k9)))), (r 10, .inl (cI, K, .inl (fun k9 => iI (g 10 k9)))), (r 11, .inl (cI, K, .inl (fun k9 => iI (g 11 k9)))), (r 12, .inl (cI, K, .inl (fun k9 => iI (g 12 k9)))), (r 13, .inl (cI, K, .inl (fun k9 => iI (g 13 k9)))), (r 14, .inl (cI, K, .inl (fun k9 => iI (g 14 k9)))), (r 15, .inl (cI, K, .inl (fun k9 => iI (g 15 k9)))), (r 16, .inl (cI, K, .inl (fun k9 => iI (g 16 k9)))), (r 17, .inl (cI, K, .inl (fun k9 => iI (g 17 k9)))), (r 18, .inl (cI, K, .inl (fun k9 => iI (g 18 k9)))), (r 19, .inl (cI, K, .inl (fun k9 => iI (g 19 k9)))), (r 20, .inl (cI, K, .inl (fun k9 => iI (g 20 k9)))), (r 21, .inl (cI, K, .inl (fun k9 => iI (g 21 k9)))), (r 22, .inl (cI, K, .inl (fun k9 => iI (g 22 k9)))), (r 23, .inl (cI, K, .inl (fun k9 => iI (g 23 k9)))), (r 24, .inl (cI, K, .inl (fun k9 => iI (g 24 k9)))), (r 25, .inl (cI, K, .inl (fun k9 => iI (g 25 k9)))), (r 26, .inl (cI, K, .inl (fun k9 => iI (g 26 k9)))), (r 27, .inl (cI, K, .inl (fun k9 => iI (g 27 k9)))), (r 28, .inl (cI, K, .inl (fun k9 => iI (g 28 k9)))), (r 29, .inl (cI, K, .inl (fun k9 => iI (g 29 k9))))]
