/-! THE TYPES -/
/-- places of the class's flat row and of the reference's rows of rows that hold the same types -/
def PRel (S : Nat → Nat → Prop) (w : Nat → Int) (m : Nat → Nat → Int) : Prop := ∀ t k, S t k → k < 8 ∧ w (t * 8 + k) = m t k ∧ (m t k = 127 ∨ m t k = 126)
set_option maxRecDepth 20000 in
theorem updZ_s (f : Nat → Int) (k : Nat) (x : Int) : updZ f k x k = x := if_pos rfl
set_option maxRecDepth 20000 in
theorem updZ_n {f : Nat → Int} {k j : Nat} {x : Int} (h : j ≠ k) : updZ f k x j = f j := if_neg h
set_option maxRecDepth 20000 in
theorem upd2_s (f : Nat → Nat → Int) (t k : Nat) (x : Int) : upd2 f t k x t k = x := by unfold upd2; rw [if_pos rfl, updZ_s]
set_option maxRecDepth 20000 in
theorem upd2_n {f : Nat → Nat → Int} {t k i j : Nat} {x : Int} (h : i ≠ t ∨ j ≠ k) : upd2 f t k x i j = f i j := by
  unfold upd2
  by_cases c : i = t
  · subst c; rw [if_pos rfl, updZ_n (h.resolve_left (fun q => q rfl))]
  · rw [if_neg c]
set_option maxRecDepth 20000 in
theorem PRel.add {S : Nat → Nat → Prop} {w : Nat → Int} {m : Nat → Nat → Int} (h : PRel S w m) {t k : Nat} {x : Int} (hk : k < 8) (hx : x = 127 ∨ x = 126) : PRel (fun i j => S i j ∨ (i = t ∧ j = k)) (updZ w (t * 8 + k) x) (upd2 m t k x) := by
  intro i j hS
  by_cases c : i = t ∧ j = k
  · obtain ⟨rfl, rfl⟩ := c
    rw [updZ_s, upd2_s]; exact ⟨hk, rfl, hx⟩
  · have hs : S i j := hS.resolve_right c
    obtain ⟨h1, h2, h3⟩ := h i j hs
    rw [updZ_n (by omega), upd2_n (by omega)]
    exact ⟨h1, h2, h3⟩
set_option maxRecDepth 20000 in
theorem PRel.sub {S S' : Nat → Nat → Prop} {w : Nat → Int} {m : Nat → Nat → Int} (h : PRel S w m) (hs : ∀ i j, S' i j → S i j) : PRel S' w m := fun i j q => h i j (hs i j q)
section TY
variable {fu : Nat} {f : Nat → Int32} {L n : Int} {zk : KMk} {z3 : KM3} {zj : KMj} {zl : KMl} {z5 : KM5} {z6 : KM6} {z7 : KM7} {ze : KMe}
set_option maxRecDepth 20000 in
theorem par_end {t : Nat} (ht : t < 20) {z : KSo} {w : KW1} {k : Int} {n2 : Nat} (hk : w.parameterCounts t ≤ k) : L62_Rd_readTypes fu t (n2 + 1) z w k = .ret (z, w, k) := by
  rw [L62_Rd_readTypes.eq_2, if_pos (show (0 : Int) ≤ t ∧ (t : Int) < 20 by omega), if_pos (by show w.parameterCounts (t : Int).toNat ≤ k; rw [Int.toNat_natCast]; exact hk)]
set_option maxRecDepth 20000 in
theorem par_step {t k : Nat} (ht : t < 20) (hk8 : k < 8) {z : KSo} {T : Int} {pc ps rs : Nat → Int} {n2 : Nat} (hk : ¬ pc t ≤ k) : L62_Rd_readTypes fu t (n2 + 1) z (KW1.mk T pc ps rs) k = obind (f_So_valueType z) (fun x => L62_Rd_readTypes fu t n2 x.1 (KW1.mk T pc (updZ ps (t * 8 + k) x.2) rs) ((k + 1 : Nat) : Int)) := by
  rw [L62_Rd_readTypes.eq_2, if_pos (show (0 : Int) ≤ t ∧ (t : Int) < 20 by omega), if_neg (show ¬ pc (t : Int).toNat ≤ k by rw [Int.toNat_natCast]; exact hk), if_pos (show R32 ((t : Int) * 8) by omega), if_pos (show R32 ((t : Int) * 8 + k) by omega)]
  congr 1
  funext x
  rw [if_pos (show (0 : Int) ≤ (t : Int) * 8 + k ∧ (t : Int) * 8 + k < 160 by omega), if_pos (show R32 ((k : Int) + 1) by omega), show ((t : Int) * 8 + k).toNat = t * 8 + k by omega]
  rfl
set_option maxRecDepth 20000 in
theorem par_dead {t : Nat} (ht : t < 20) {N : Int} (hN : N ≤ 8) {T : Int} {pc rs : Nat → Int} (hpc : pc t = N) : ∀ (j k : Nat) (a : Int) (ps : Nat → Int) (n2 : Nat), (k + j : Int) = N → j < n2 → ∃ ps', L62_Rd_readTypes fu t n2 (KSo.mk a L true f) (KW1.mk T pc ps rs) k = .ret (KSo.mk a L true f, KW1.mk T pc ps' rs, N) := by
  intro j
  induction j with
  | zero =>
    intro k a ps n2 hk hn
    obtain ⟨n2, rfl⟩ : ∃ q, n2 = q + 1 := ⟨n2 - 1, by omega⟩
    exact ⟨ps, (par_end ht (by show pc t ≤ k; omega)).trans (by rw [show (k : Int) = N by omega])⟩
  | succ j ih =>
    intro k a ps n2 hk hn
    obtain ⟨n2, rfl⟩ : ∃ q, n2 = q + 1 := ⟨n2 - 1, by omega⟩
    obtain ⟨v, hv⟩ := so_vtD (f := f) (a := a) (L := L)
    rw [par_step ht (by omega) (by omega), hv, obind_ret]
    exact ih (k + 1) a _ n2 (by omega) (by omega)
set_option maxRecDepth 20000 in
theorem mpar_end {t : Nat} (ht : t < 20) {m1 : KM1} {x : KRf × KMc × Int} {n1 : Nat} {tp : KMt} {r : Int} {c : KMc} {mp : KMp} {k : Int} (hk : x.2.2 ≤ k) : L119_Mo_sectionOf fu zk tp z3 zj zl z5 z6 z7 ze m1 t x (n1 + 1) r c mp k = .ret (r, c, mp, k) := by
  rw [L119_Mo_sectionOf.eq_2, if_pos (show (0 : Int) ≤ t ∧ (t : Int) < 20 by omega), if_pos (by rw [updZ_s]; exact hk)]
set_option maxRecDepth 20000 in
theorem mpar_step {t k : Nat} (ht : t < 20) (hk8 : k < 8) {m1 : KM1} {x : KRf × KMc × Int} {n1 : Nat} {tp : KMt} {r : Int} {c : KMc} {mp : Nat → Nat → Int} (hk : ¬ x.2.2 ≤ k) : L119_Mo_sectionOf fu zk tp z3 zj zl z5 z6 z7 ze m1 t x (n1 + 1) r c mp k = obind2 (f_Mo_valueType r c tp) (fun y => L119_Mo_sectionOf fu zk tp z3 zj zl z5 z6 z7 ze m1 t x n1 y.1 y.2.1 (upd2 mp t k y.2.2) ((k + 1 : Nat) : Int)) (fun y => .thr (y.1, y.2, zk, KM1.mk m1.types (updZ m1.parameterCount (t : Int).toNat x.2.2) m1.results, mp, z3, zj, zl, z5, z6, z7, ze)) := by
  rw [L119_Mo_sectionOf.eq_2, if_pos (show (0 : Int) ≤ t ∧ (t : Int) < 20 by omega), if_neg (by rw [updZ_s]; exact hk), if_pos (show (0 : Int) ≤ t ∧ (t : Int) < 20 by omega)]
  congr 1
  funext y
  rw [if_pos (show (0 : Int) ≤ (k : Int) ∧ (k : Int) < 8 by omega), if_pos (show R32 ((k : Int) + 1) by omega), Int.toNat_natCast, Int.toNat_natCast]
  rfl
set_option maxRecDepth 20000 in
/-- a function type's parameters -/
theorem lp_par {t : Nat} (ht : t < 20) {N : Int} (hN : N ≤ 8) (hL : L ≤ 2000) {T : Int} {pc rs : Nat → Int} (hpc : pc t = N) {m1 : KM1} {x : KRf × KMc × Int} (hx : x.2.2 = N) : ∀ (j k : Nat) (a r : Int) (S : Nat → Nat → Prop) (ps : Nat → Int) (mp : Nat → Nat → Int) (n1 n2 : Nat), (k + j : Int) = N → 0 ≤ a → a ≤ L → j < n1 → j < n2 → PRel S ps mp →
    (∃ (q : Int) (ps' : Nat → Int) (mp' : Nat → Nat → Int), L119_Mo_sectionOf fu zk (KMt.mk f n) z3 zj zl z5 z6 z7 ze m1 t x n1 r (KMc.mk a L) mp k = .ret (r, KMc.mk q L, mp', N) ∧ L62_Rd_readTypes fu t n2 (KSo.mk a L false f) (KW1.mk T pc ps rs) k = .ret (KSo.mk q L false f, KW1.mk T pc ps' rs, N) ∧ a ≤ q ∧ q ≤ L ∧ PRel (fun i p => S i p ∨ (i = t ∧ k ≤ p ∧ (p : Int) < N)) ps' mp') ∨
    (∃ (q : Int) (ps' : Nat → Int) (tt : _), L119_Mo_sectionOf fu zk (KMt.mk f n) z3 zj zl z5 z6 z7 ze m1 t x n1 r (KMc.mk a L) mp k = .thr tt ∧ tt.1 = 1 ∧ L62_Rd_readTypes fu t n2 (KSo.mk a L false f) (KW1.mk T pc ps rs) k = .ret (KSo.mk q L true f, KW1.mk T pc ps' rs, N) ∧ a ≤ q ∧ q ≤ L) := by
  intro j
  induction j with
  | zero =>
    intro k a r S ps mp n1 n2 hk h0 h1 hn1 hn2 hR
    obtain ⟨n1, rfl⟩ : ∃ q, n1 = q + 1 := ⟨n1 - 1, by omega⟩
    obtain ⟨n2, rfl⟩ : ∃ q, n2 = q + 1 := ⟨n2 - 1, by omega⟩
    refine Or.inl ⟨a, ps, mp, ?_, ?_, Int.le_refl _, h1, hR.sub (fun i p q => ?_)⟩
    · rw [mpar_end ht (by omega), show (k : Int) = N by omega]
    · rw [par_end ht (by show pc t ≤ k; omega), show (k : Int) = N by omega]
    · rcases q with q | ⟨-, q1, q2⟩
      · exact q
      · omega
  | succ j ih =>
    intro k a r S ps mp n1 n2 hk h0 h1 hn1 hn2 hR
    obtain ⟨n1, rfl⟩ : ∃ q, n1 = q + 1 := ⟨n1 - 1, by omega⟩
    obtain ⟨n2, rfl⟩ : ∃ q, n2 = q + 1 := ⟨n2 - 1, by omega⟩
    rw [mpar_step ht (by omega) (by omega), par_step ht (by omega) (by omega)]
    rcases pr_vt (f := f) (r := r) (n := n) h0 h1 hL with ⟨q, b, v, e1, e2, e3, e4, rfl, e5⟩ | ⟨c, q, v, e1, e2, e3, e4, -⟩
    · rw [e1, e2, obind2_ret, obind_ret]
      have hR' := hR.add (t := t) (k := k) (x := b) (by omega) e5
      rcases ih (k + 1) q r _ _ _ n1 n2 (by omega) (by omega) e4 (by omega) (by omega) hR' with ⟨q2, ps', mp', g1, g2, g3, g4, g5⟩ | ⟨q2, ps', tt, g1, g2, g3, g4, g5⟩
      · refine Or.inl ⟨q2, ps', mp', g1, g2, by omega, g4, g5.sub (fun i p q => ?_)⟩
        rcases q with q | ⟨q0, q1, q2⟩
        · exact Or.inl (Or.inl q)
        · by_cases c : p = k
          · exact Or.inl (Or.inr ⟨q0, c⟩)
          · exact Or.inr ⟨q0, by omega, q2⟩
      · exact Or.inr ⟨q2, ps', tt, g1, g2, g3, by omega, g5⟩
    · rw [e1, e2, obind2_thr, obind_ret]
      obtain ⟨ps', hp⟩ := par_dead (fu := fu) (f := f) (L := L) ht hN (T := T) (rs := rs) hpc j (k + 1) q (updZ ps (t * 8 + k) v) n2 (by omega) (by omega)
      exact Or.inr ⟨q, ps', _, rfl, rfl, hp, e3, e4⟩
end TY
/-- a result's type: the reference says 0 where there is none, the class 64 -/
def rT (x : Int) : Int := if x = 0 then 64 else x
def TRel (T : Nat) (pc rs : Nat → Int) (mc mr : Nat → Int) (ps : Nat → Int) (mp : Nat → Nat → Int) : Prop :=
  (∀ t, t < T → pc t = mc t ∧ 0 ≤ mc t ∧ mc t ≤ 8 ∧ rs t = rT (mr t) ∧ (mr t = 0 ∨ mr t = 127 ∨ mr t = 126)) ∧ PRel (fun i k => i < T ∧ (k : Int) < mc i) ps mp
set_option maxRecDepth 20000 in
theorem so_req {a L : Int} {f : Nat → Int32} {c : Int} (h1 : 0 ≤ a) (h2 : a < L) (h3 : L ≤ 2000) : f_So_require (KSo.mk a L false f) c = if by8 (f a.toNat) = c then .ret (KSo.mk (a + 1) L false f) else .ret (KSo.mk (a + 1) L true f) := by
  unfold f_So_require
  rw [so_oct h1 h2 h3, obind_ret]; rfl
set_option maxRecDepth 20000 in
theorem so_reqE {a L : Int} {b : Bool} {f : Nat → Int32} {c : Int} (h : b = true ∨ L ≤ a) : f_So_require (KSo.mk a L b f) c = .ret (KSo.mk a L true f) := by
  unfold f_So_require
  rw [so_octE h, obind_ret]
  simp only [jp]
  split <;> rfl
section TZ
variable {fu : Nat} {f : Nat → Int32} {L n : Int} {zk : KMk} {z3 : KM3} {zj : KMj} {zl : KMl} {z5 : KM5} {z6 : KM6} {z7 : KM7} {ze : KMe}
set_option maxRecDepth 20000 in
theorem ty_end {z : KSo} {T t : Int} {pc ps rs : Nat → Int} {n2 : Nat} (h : T ≤ t) : L20_Rd_readTypes fu (n2 + 1) z (KW1.mk T pc ps rs) t = .ret (z, KW1.mk T pc ps rs, t) := by
  rw [L20_Rd_readTypes.eq_2, if_pos h]
set_option maxRecDepth 20000 in
theorem ty_step {z : KSo} {T : Int} {t : Nat} {pc ps rs : Nat → Int} {n2 : Nat} (h : ¬ T ≤ t) (ht : t < 20) : L20_Rd_readTypes fu (n2 + 1) z (KW1.mk T pc ps rs) t = obind (f_So_require z 96) (fun x => obind (f_So_unsigned fu x 8) (fun x => obind (L62_Rd_readTypes fu t fu x.1 (KW1.mk T (updZ pc t x.2.toInt32.toInt) ps rs) 0) (fun y => obind (f_So_unsigned fu y.1 1) (fun x => obind (if x.2 = (1 : Int64) then f_So_valueType x.1 else .ret (x.1, 64)) (fun u => L20_Rd_readTypes fu n2 u.1 (KW1.mk y.2.1.typeCount y.2.1.parameterCounts y.2.1.parameters (updZ y.2.1.results t u.2)) ((t + 1 : Nat) : Int)))))) := by
  rw [L20_Rd_readTypes.eq_2, if_neg (show ¬ (KW1.mk T pc ps rs).typeCount ≤ t from h)]
  congr 1; funext x; congr 1; funext x
  rw [if_pos (show (0 : Int) ≤ t ∧ (t : Int) < 20 by omega), Int.toNat_natCast]
  congr 1; funext y; congr 1; funext x
  simp only [jp]
  rw [if_pos (show (0 : Int) ≤ t ∧ (t : Int) < 20 by omega), if_pos (show R32 ((t : Int) + 1) by omega)]
  by_cases c : x.2 = (1 : Int64)
  · rw [if_pos c, if_pos c]
    congr 1; funext u
    rw [if_pos (show (0 : Int) ≤ t ∧ (t : Int) < 20 by omega), if_pos (show R32 ((t : Int) + 1) by omega)]; rfl
  · rw [if_neg c, if_neg c, obind_ret]; rfl
set_option maxRecDepth 20000 in
theorem ty_dead (hfu : 9 < fu) {T : Nat} (hT : T ≤ 20) : ∀ (j t : Nat) (a : Int) (pc ps rs : Nat → Int) (n2 : Nat), t + j = T → j < n2 → ∃ pc' ps' rs', L20_Rd_readTypes fu n2 (KSo.mk a L true f) (KW1.mk T pc ps rs) t = .ret (KSo.mk a L true f, KW1.mk T pc' ps' rs', T) := by
  intro j
  induction j with
  | zero =>
    intro t a pc ps rs n2 hk hn
    obtain ⟨n2, rfl⟩ : ∃ q, n2 = q + 1 := ⟨n2 - 1, by omega⟩
    exact ⟨pc, ps, rs, (ty_end (by omega)).trans (by rw [show (t : Int) = T by omega])⟩
  | succ j ih =>
    intro t a pc ps rs n2 hk hn
    obtain ⟨n2, rfl⟩ : ∃ q, n2 = q + 1 := ⟨n2 - 1, by omega⟩
    rw [ty_step (by omega) (by omega), so_reqE (Or.inl rfl), obind_ret, so_unsD (by omega), obind_ret]
    obtain ⟨ps', hp⟩ := par_dead (fu := fu) (f := f) (L := L) (t := t) (by omega) (N := 0) (by decide) (T := T) (pc := updZ pc t (0 : Int64).toInt32.toInt) (rs := rs) (by rw [updZ_s]; decide) 0 0 a ps fu (by decide) (by omega)
    rw [show ((0 : Nat) : Int) = 0 from rfl] at hp
    show ∃ pc' ps' rs', obind (L62_Rd_readTypes fu t fu (KSo.mk a L true f) (KW1.mk T (updZ pc t (0 : Int64).toInt32.toInt) ps rs) 0) _ = _
    rw [hp, obind_ret]
    show ∃ pc' ps' rs', obind (f_So_unsigned fu (KSo.mk a L true f) 1) _ = _
    rw [so_unsD (by omega), obind_ret, if_neg (show ¬ (0 : Int64) = 1 by decide), obind_ret]
    exact ih (t + 1) a _ _ _ n2 (by omega) (by omega)
set_option maxRecDepth 20000 in
theorem i64_1 {v : Int64} {b : Int} (h : v.toInt = b) : v = (1 : Int64) ↔ b = 1 := by
  rw [← Int64.toInt_inj, h]; exact Iff.rfl
set_option maxRecDepth 20000 in
theorem TRel.add {t : Nat} {pc rs mc mr ps ps' : Nat → Int} {mp mp' : Nat → Nat → Int} (h : TRel t pc rs mc mr ps mp) {N x x' : Int} (h0 : 0 ≤ N) (h8 : N ≤ 8) (hr : x' = rT x) (hx : x = 0 ∨ x = 127 ∨ x = 126) (hp : PRel (fun i p => (i < t ∧ (p : Int) < mc i) ∨ (i = t ∧ 0 ≤ p ∧ (p : Int) < N)) ps' mp') : TRel (t + 1) (updZ pc t N) (updZ rs t x') (updZ mc t N) (updZ mr t x) ps' mp' := by
  refine ⟨fun i hi => ?_, hp.sub (fun i k q => ?_)⟩
  · by_cases c : i = t
    · subst c
      simp only [updZ_s]
      exact ⟨trivial, h0, h8, hr, hx⟩
    · rw [updZ_n c, updZ_n c, updZ_n c, updZ_n c]
      exact h.1 i (by omega)
  · obtain ⟨q1, q2⟩ := q
    by_cases c : i = t
    · subst c
      rw [updZ_s] at q2
      exact Or.inr ⟨rfl, Nat.zero_le _, q2⟩
    · rw [updZ_n c] at q2
      exact Or.inl ⟨by omega, q2⟩
set_option maxRecDepth 20000 in
/-- the types, one after the other -/
theorem lp_types (hfu : 9 < fu) (hL : L ≤ 2000) {T : Nat} (hT : T ≤ 20) : ∀ (j t : Nat) (a r : Int) (pc ps rs mc mr : Nat → Int) (mp : Nat → Nat → Int) (n1 n2 : Nat), t + j = T → 0 ≤ a → a ≤ L → j < n1 → j < n2 → TRel t pc rs mc mr ps mp →
    (∃ (q : Int) (pc' ps' rs' mc' mr' : Nat → Int) (mp' : Nat → Nat → Int), L72_Mo_sectionOf fu zk (KMt.mk f n) z3 zj zl z5 z6 z7 ze n1 r (KMc.mk a L) (KM1.mk T mc mr) mp t = .ret (r, KMc.mk q L, KM1.mk T mc' mr', mp', T) ∧ L20_Rd_readTypes fu n2 (KSo.mk a L false f) (KW1.mk T pc ps rs) t = .ret (KSo.mk q L false f, KW1.mk T pc' ps' rs', T) ∧ a ≤ q ∧ q ≤ L ∧ TRel T pc' rs' mc' mr' ps' mp') ∨
    (∃ (q : Int) (pc' ps' rs' : Nat → Int) (tt : _), L72_Mo_sectionOf fu zk (KMt.mk f n) z3 zj zl z5 z6 z7 ze n1 r (KMc.mk a L) (KM1.mk T mc mr) mp t = .thr tt ∧ tt.1 = 1 ∧ L20_Rd_readTypes fu n2 (KSo.mk a L false f) (KW1.mk T pc ps rs) t = .ret (KSo.mk q L true f, KW1.mk T pc' ps' rs', T) ∧ a ≤ q ∧ q ≤ L) := by
  intro j
  induction j with
  | zero =>
    intro t a r pc ps rs mc mr mp n1 n2 ht h0 h1 hn1 hn2 hR
    obtain ⟨n1, rfl⟩ : ∃ q, n1 = q + 1 := ⟨n1 - 1, by omega⟩
    obtain ⟨n2, rfl⟩ : ∃ q, n2 = q + 1 := ⟨n2 - 1, by omega⟩
    obtain rfl : t = T := by omega
    refine Or.inl ⟨a, pc, ps, rs, mc, mr, mp, ?_, ty_end (by omega), Int.le_refl _, h1, hR⟩
    rw [L72_Mo_sectionOf.eq_2, if_pos (show (KM1.mk t mc mr).types ≤ t from Int.le_refl _)]
  | succ j ih =>
    intro t a r pc ps rs mc mr mp n1 n2 ht h0 h1 hn1 hn2 hR
    obtain ⟨n1, rfl⟩ : ∃ q, n1 = q + 1 := ⟨n1 - 1, by omega⟩
    obtain ⟨n2, rfl⟩ : ∃ q, n2 = q + 1 := ⟨n2 - 1, by omega⟩
    have hd : ∀ (q : Int) (pc ps rs : Nat → Int) (n2 : Nat), j < n2 → ∃ pc' ps' rs', L20_Rd_readTypes fu n2 (KSo.mk q L true f) (KW1.mk T pc ps rs) ((t + 1 : Nat) : Int) = .ret (KSo.mk q L true f, KW1.mk T pc' ps' rs', T) := fun q pc ps rs n2 hn => ty_dead hfu hT j (t + 1) q pc ps rs n2 (by omega) hn
    rw [L72_Mo_sectionOf.eq_2, if_neg (show ¬ (KM1.mk T mc mr).types ≤ t by show ¬ (T : Int) ≤ t; omega), ty_step (by omega) (by omega)]
    -- what is left of the class's step once it has failed
    have left2 : ∀ (q : Int) (pc ps rs : Nat → Int), ∃ pc' ps' rs', obind (f_So_unsigned fu (KSo.mk q L true f) 1) (fun x => obind (if x.2 = (1 : Int64) then f_So_valueType x.1 else .ret (x.1, 64)) (fun u => L20_Rd_readTypes fu n2 u.1 (KW1.mk T pc ps (updZ rs t u.2)) ((t + 1 : Nat) : Int))) = .ret (KSo.mk q L true f, KW1.mk T pc' ps' rs', T) := by
      intro q pc ps rs
      rw [so_unsD (by omega), obind_ret, if_neg (show ¬ (0 : Int64) = 1 by decide), obind_ret]
      exact hd q _ _ _ n2 (by omega)
    have left1 : ∀ (q : Int) (N : Int64), N.toInt32.toInt ≤ 8 → 0 ≤ N.toInt32.toInt → ∃ pc' ps' rs', obind (L62_Rd_readTypes fu t fu (KSo.mk q L true f) (KW1.mk T (updZ pc t N.toInt32.toInt) ps rs) 0) (fun y => obind (f_So_unsigned fu y.1 1) (fun x => obind (if x.2 = (1 : Int64) then f_So_valueType x.1 else .ret (x.1, 64)) (fun u => L20_Rd_readTypes fu n2 u.1 (KW1.mk y.2.1.typeCount y.2.1.parameterCounts y.2.1.parameters (updZ y.2.1.results t u.2)) ((t + 1 : Nat) : Int)))) = .ret (KSo.mk q L true f, KW1.mk T pc' ps' rs', T) := by
      intro q N hN hN0
      obtain ⟨ps', hp⟩ := par_dead (fu := fu) (f := f) (L := L) (t := t) (by omega) hN (T := T) (pc := updZ pc t N.toInt32.toInt) (rs := rs) (updZ_s _ _ _) N.toInt32.toInt.toNat 0 q ps fu (by omega) (by omega)
      rw [show ((0 : Nat) : Int) = 0 from rfl] at hp
      rw [hp, obind_ret]
      exact left2 q _ _ _
    by_cases ha : a < L
    · rw [mo_one h0 ha hL, so_req h0 ha hL, obind2_ret]
      simp only [jp]
      generalize by8 (f a.toNat) = b
      by_cases h96 : b = 96
      · rw [if_pos h96, if_pos h96, mo_read, obind2_ret, obind_ret]
        rcases pr_few (fu := fu) (f := f) (a := a + 1) (L := L) (r := r) (n := n) (most := 8) (by decide) (by omega) (by omega) (by omega) hL with ⟨q, N, v, e1, e2, e3, e4, e5, e6, e7, e8⟩ | ⟨c, q, v, e1, e2, e3, e4, rfl⟩
        · rw [e1, e2, obind2_ret, obind_ret, if_pos (show (0 : Int) ≤ t ∧ (t : Int) < 20 by omega)]
          have e8 : N ≤ 8 := e8
          dsimp only
          rw [e6]
          have hps := lp_par (fu := fu) (f := f) (L := L) (n := n) (zk := zk) (z3 := z3) (zj := zj) (zl := zl) (z5 := z5) (z6 := z6) (z7 := z7) (ze := ze) (t := t) (by omega) e8 hL (T := T) (pc := updZ pc t N) (rs := rs) (updZ_s _ _ _) (m1 := KM1.mk T mc mr) (x := (r, KMc.mk q L, N)) rfl N.toNat 0 q r _ ps mp fu fu (by omega) (by omega) e4 (by omega) (by omega) hR.2
          rw [show ((0 : Nat) : Int) = 0 from rfl] at hps
          rcases hps with ⟨q2, ps', mp', g1, g2, g3, g4, g5⟩ | ⟨q2, ps', tt, g1, g2, g3, g4, g5⟩
          · rw [g1, g2, obind2_ret, obind_ret]
            dsimp only
            rcases pr_few (fu := fu) (f := f) (a := q2) (L := L) (r := r) (n := n) (most := 1) (by decide) (by omega) (by omega) g4 hL with ⟨q3, N3, v3, k1, k2, k3, k4, k5, k6, k7, k8⟩ | ⟨c, q3, v3, k1, k2, k3, k4, rfl⟩
            · rw [k1, obind2_ret, k2, obind_ret]
              have k8 : N3 ≤ 1 := k8
              rcases (show N3 = 0 ∨ N3 = 1 by omega) with rfl | rfl
              · rw [if_pos rfl, if_neg (show ¬ v3 = (1 : Int64) from fun q => by have := (i64_1 k5).mp q; omega), obind_ret, if_pos (show (0 : Int) ≤ t ∧ (t : Int) < 20 by omega), if_pos (show R32 ((t : Int) + 1) by omega)]
                have hR' := hR.add e7 e8 (x := 0) (x' := 64) rfl (Or.inl rfl) g5
                rcases ih (t + 1) q3 r _ _ _ _ _ _ n1 n2 (by omega) (by omega) k4 (by omega) (by omega) hR' with ⟨q4, pc', ps2, rs', mc', mr', mp2, o1, o2, o3, o4, o5⟩ | ⟨q4, pc', ps2, rs', tt, o1, o2, o3, o4, o5⟩
                · exact Or.inl ⟨q4, pc', ps2, rs', mc', mr', mp2, o1, o2, by omega, o4, o5⟩
                · exact Or.inr ⟨q4, pc', ps2, rs', tt, o1, o2, o3, by omega, o5⟩
              · rw [if_neg (show ¬ (1 : Int) = 0 by decide), if_pos (show v3 = (1 : Int64) from (i64_1 k5).mpr rfl)]
                dsimp only
                rcases pr_vt (f := f) (r := r) (n := n) (show 0 ≤ q3 by omega) k4 hL with ⟨q4, b4, v4, w1, w2, w3, w4, rfl, w5⟩ | ⟨c, q4, v4, w1, w2, w3, w4, -⟩
                · rw [w1, w2, obind2_ret, obind_ret, if_pos (show (0 : Int) ≤ t ∧ (t : Int) < 20 by omega), if_pos (show R32 ((t : Int) + 1) by omega)]
                  have hR' := hR.add e7 e8 (x := b4) (x' := b4) (by unfold rT; rw [if_neg (by omega)]) (Or.inr w5) g5
                  rcases ih (t + 1) q4 r _ _ _ _ _ _ n1 n2 (by omega) (by omega) w4 (by omega) (by omega) hR' with ⟨q5, pc', ps2, rs', mc', mr', mp2, o1, o2, o3, o4, o5⟩ | ⟨q5, pc', ps2, rs', tt, o1, o2, o3, o4, o5⟩
                  · exact Or.inl ⟨q5, pc', ps2, rs', mc', mr', mp2, o1, o2, by omega, o4, o5⟩
                  · exact Or.inr ⟨q5, pc', ps2, rs', tt, o1, o2, o3, by omega, o5⟩
                · rw [w1, w2, obind2_thr, obind_ret]
                  obtain ⟨pc', ps2, rs', o⟩ := hd q4 (updZ pc t N) ps' (updZ rs t v4) n2 (by omega)
                  exact Or.inr ⟨q4, pc', ps2, rs', _, rfl, rfl, o, by omega, w4⟩
            · rw [k1, obind2_thr, k2, obind_ret, if_neg (show ¬ (0 : Int64) = 1 by decide), obind_ret]
              obtain ⟨pc', ps2, rs', o⟩ := hd q3 (updZ pc t N) ps' (updZ rs t 64) n2 (by omega)
              exact Or.inr ⟨q3, pc', ps2, rs', _, rfl, rfl, o, by omega, k4⟩
          · rw [g1, obind2_thr, g3, obind_ret]
            obtain ⟨pc', ps2, rs', o⟩ := left2 q2 (updZ pc t N) ps' rs
            exact Or.inr ⟨q2, pc', ps2, rs', tt, rfl, g2, o, by omega, g5⟩
        · rw [e1, e2, obind2_thr, obind_ret]
          obtain ⟨pc', ps2, rs', o⟩ := left1 q 0 (by decide) (by decide)
          exact Or.inr ⟨q, pc', ps2, rs', _, rfl, rfl, o, by omega, e4⟩
      · rw [if_neg h96, if_neg h96, mo_readE, obind2_thr, obind_ret, so_unsD (by omega), obind_ret]
        obtain ⟨pc', ps2, rs', o⟩ := left1 (a + 1) 0 (by decide) (by decide)
        exact Or.inr ⟨a + 1, pc', ps2, rs', _, rfl, rfl, o, by omega, by omega⟩
    · rw [mo_oneE (by omega), so_reqE (Or.inr (by omega)), obind2_thr, obind_ret, so_unsD (by omega), obind_ret]
      obtain ⟨pc', ps2, rs', o⟩ := left1 a 0 (by decide) (by decide)
      exact Or.inr ⟨a, pc', ps2, rs', _, rfl, rfl, o, by omega, h1⟩
end TZ
/-! SECTIONS: types, functions -/
section SE
variable {fu : Nat} {f : Nat → Int32} {a L n r : Int} {zk : KMk} {m1 : KM1} {mp : KMp} {z3 : KM3} {zj : KMj} {zl : KMl} {z5 : KM5} {z6 : KM6} {z7 : KM7} {ze : KMe}
set_option maxRecDepth 20000 in
theorem ty_secD (hfu : 20 < fu) (w : KW1) : ∃ w', f_Rd_readTypes fu (KSo.mk a L true f) w = .ret (KSo.mk a L true f, w') := by
  obtain ⟨T0, pc, ps, rs⟩ := w
  unfold f_Rd_readTypes
  rw [so_unsD (by omega), obind_ret]
  obtain ⟨pc', ps', rs', o⟩ := ty_dead (fu := fu) (f := f) (L := L) (by omega) (T := 0) (by decide) 0 0 a pc ps rs fu rfl (by omega)
  refine ⟨KW1.mk ((0 : Nat) : Int) pc' ps' rs', ?_⟩
  show obind (L20_Rd_readTypes fu fu (KSo.mk a L true f) (KW1.mk ((0 : Nat) : Int) pc ps rs) ((0 : Nat) : Int)) _ = _
  rw [o, obind_ret]
set_option maxRecDepth 20000 in
theorem ty_sec (hfu : 30 < fu) (h0 : 0 ≤ a) (h1 : a ≤ L) (hL : L ≤ 2000) (w : KW1) :
    (∃ (q : Int) (T : Nat) (pc ps rs mc mr : Nat → Int) (mp' : Nat → Nat → Int), f_Mo_sectionOf fu r (KMc.mk a L) zk (KMt.mk f n) m1 mp z3 zj zl z5 z6 z7 ze 1 = .ret (r, KMc.mk q L, zk, KM1.mk T mc mr, mp', z3, zj, zl, z5, z6, z7, ze) ∧ f_Rd_readTypes fu (KSo.mk a L false f) w = .ret (KSo.mk q L false f, KW1.mk T pc ps rs) ∧ a ≤ q ∧ q ≤ L ∧ T ≤ 20 ∧ TRel T pc rs mc mr ps mp') ∨
    (∃ (q : Int) (w' : KW1) (tt : _), f_Mo_sectionOf fu r (KMc.mk a L) zk (KMt.mk f n) m1 mp z3 zj zl z5 z6 z7 ze 1 = .thr tt ∧ tt.1 = 1 ∧ f_Rd_readTypes fu (KSo.mk a L false f) w = .ret (KSo.mk q L true f, w') ∧ a ≤ q ∧ q ≤ L) := by
  obtain ⟨T0, pc, ps, rs⟩ := w
  obtain ⟨M0, mc, mr⟩ := m1
  have e : f_Mo_sectionOf fu r (KMc.mk a L) zk (KMt.mk f n) (M0, mc, mr) mp z3 zj zl z5 z6 z7 ze 1 = obind2 (f_Mo_few2 fu r (KMc.mk a L) (KMt.mk f n) 20) (fun x => obind2 (L72_Mo_sectionOf fu zk (KMt.mk f n) z3 zj zl z5 z6 z7 ze fu x.1 x.2.1 (KM1.mk x.2.2 mc mr) mp 0) (fun y => .ret (y.1, y.2.1, zk, y.2.2.1, y.2.2.2.1, z3, zj, zl, z5, z6, z7, ze)) (fun t9 => .thr t9)) (fun x => .thr (x.1, x.2, zk, (M0, mc, mr), mp, z3, zj, zl, z5, z6, z7, ze)) := by
    unfold f_Mo_sectionOf jp
    exact if_pos rfl
  rw [e]
  unfold f_Rd_readTypes
  rcases pr_few (fu := fu) (f := f) (a := a) (L := L) (r := r) (n := n) (most := 20) (by decide) (by omega) h0 h1 hL with ⟨q, T, v, e1, e2, e3, e4, e5, e6, e7, e8⟩ | ⟨c, q, v, e1, e2, e3, e4, rfl⟩
  · rw [e1, e2, obind2_ret, obind_ret]
    have e8 : T ≤ 20 := e8
    obtain ⟨T, rfl⟩ : ∃ k : Nat, T = (k : Int) := ⟨T.toNat, by omega⟩
    dsimp only
    rw [e6]
    have h := lp_types (fu := fu) (f := f) (L := L) (n := n) (zk := zk) (z3 := z3) (zj := zj) (zl := zl) (z5 := z5) (z6 := z6) (z7 := z7) (ze := ze) (by omega) hL (T := T) (by omega) T 0 q r pc ps rs mc mr mp fu fu (by omega) (by omega) e4 (by omega) (by omega) ⟨fun t ht => by omega, fun i k hk => by omega⟩
    rw [show ((0 : Nat) : Int) = 0 from rfl] at h
    rcases h with ⟨q2, pc', ps', rs', mc', mr', mp', o1, o2, o3, o4, o5⟩ | ⟨q2, pc', ps', rs', tt, o1, o2, o3, o4, o5⟩
    · refine Or.inl ⟨q2, T, pc', ps', rs', mc', mr', mp', ?_, ?_, by omega, o4, by omega, o5⟩
      · rw [o1, obind2_ret]
      · show obind (L20_Rd_readTypes fu fu (KSo.mk q L false f) (KW1.mk T pc ps rs) 0) _ = _
        rw [o2, obind_ret]
    · refine Or.inr ⟨q2, KW1.mk T pc' ps' rs', tt, ?_, o2, ?_, by omega, o5⟩
      · rw [o1, obind2_thr]
      · show obind (L20_Rd_readTypes fu fu (KSo.mk q L false f) (KW1.mk T pc ps rs) 0) _ = _
        rw [o3, obind_ret]
  · rw [e1, e2, obind2_thr, obind_ret]
    obtain ⟨pc', ps', rs', o⟩ := ty_dead (fu := fu) (f := f) (L := L) (by omega) (T := 0) (by decide) 0 0 q pc ps rs fu rfl (by omega)
    refine Or.inr ⟨q, KW1.mk ((0 : Nat) : Int) pc' ps' rs', _, rfl, rfl, ?_, e3, e4⟩
    show obind (L20_Rd_readTypes fu fu (KSo.mk q L true f) (KW1.mk ((0 : Nat) : Int) pc ps rs) ((0 : Nat) : Int)) _ = _
    rw [o, obind_ret]
/-- the functions' types: the class keeps ints, the reference longs -/
def FRel (T : Nat) (ft : Nat → Int) (mt : Nat → Int64) : Prop := ∀ k, k < T → 0 ≤ ft k ∧ ft k ≤ 2147483647 ∧ mt k = (iI (ft k)).toInt64
set_option maxRecDepth 20000 in
theorem updL_s (g : Nat → Int64) (k : Nat) (x : Int64) : vp_updL g k x k = x := if_pos rfl
set_option maxRecDepth 20000 in
theorem updL_n {g : Nat → Int64} {k j : Nat} {x : Int64} (h : j ≠ k) : vp_updL g k x j = g j := if_neg h
set_option maxRecDepth 20000 in
theorem fn_end {z : KSo} {T t : Int} {ft : Nat → Int} {n2 : Nat} (h : T ≤ t) : L20_Rd_readFunctions fu (n2 + 1) z (KW3.mk T ft) t = .ret (z, KW3.mk T ft, t) := by
  rw [L20_Rd_readFunctions.eq_2, if_pos h]
set_option maxRecDepth 20000 in
theorem fn_step {z : KSo} {T : Int} {t : Nat} {ft : Nat → Int} {n2 : Nat} (h : ¬ T ≤ t) (ht : t < 30) : L20_Rd_readFunctions fu (n2 + 1) z (KW3.mk T ft) t = obind (f_So_unsigned fu z 2147483647) (fun x => L20_Rd_readFunctions fu n2 x.1 (KW3.mk T (updZ ft t x.2.toInt32.toInt)) ((t + 1 : Nat) : Int)) := by
  rw [L20_Rd_readFunctions.eq_2, if_neg (show ¬ (KW3.mk T ft).functionCount ≤ t from h)]
  congr 1; funext x
  rw [if_pos (show (0 : Int) ≤ t ∧ (t : Int) < 30 by omega), if_pos (show R32 ((t : Int) + 1) by omega), Int.toNat_natCast]; rfl
set_option maxRecDepth 20000 in
theorem fn_dead (hfu : 0 < fu) {T : Nat} (hT : T ≤ 30) : ∀ (j t : Nat) (ft : Nat → Int) (n2 : Nat), t + j = T → j < n2 → ∃ ft', L20_Rd_readFunctions fu n2 (KSo.mk a L true f) (KW3.mk T ft) t = .ret (KSo.mk a L true f, KW3.mk T ft', T) := by
  intro j
  induction j with
  | zero =>
    intro t ft n2 hk hn
    obtain ⟨n2, rfl⟩ : ∃ q, n2 = q + 1 := ⟨n2 - 1, by omega⟩
    exact ⟨ft, (fn_end (by omega)).trans (by rw [show (t : Int) = T by omega])⟩
  | succ j ih =>
    intro t ft n2 hk hn
    obtain ⟨n2, rfl⟩ : ∃ q, n2 = q + 1 := ⟨n2 - 1, by omega⟩
    rw [fn_step (by omega) (by omega), so_unsD hfu, obind_ret]
    exact ih (t + 1) _ n2 (by omega) (by omega)
set_option maxRecDepth 20000 in
theorem FRel.add {t : Nat} {ft : Nat → Int} {mt : Nat → Int64} (h : FRel t ft mt) {x : Int} (h0 : 0 ≤ x) (h1 : x ≤ 2147483647) : FRel (t + 1) (updZ ft t x) (vp_updL mt t ((iI x).toInt64)) := by
  intro k hk
  by_cases c : k = t
  · subst c; rw [updZ_s, updL_s]; exact ⟨h0, h1, rfl⟩
  · rw [updZ_n c, updL_n c]; exact h k (by omega)
set_option maxRecDepth 20000 in
/-- the functions, one after the other -/
theorem lp_fn (hfu : 5 < fu) (hL : L ≤ 2000) {T : Nat} (hT : T ≤ 30) : ∀ (j t : Nat) (a r : Int) (ft : Nat → Int) (mt : Nat → Int64) (n1 n2 : Nat), t + j = T → 0 ≤ a → a ≤ L → j < n1 → j < n2 → FRel t ft mt →
    (∃ (q : Int) (ft' : Nat → Int) (mt' : Nat → Int64), L203_Mo_sectionOf fu zk (KMt.mk f n) m1 mp zj zl z5 z6 z7 ze n1 r (KMc.mk a L) (KM3.mk T mt) t = .ret (r, KMc.mk q L, KM3.mk T mt', T) ∧ L20_Rd_readFunctions fu n2 (KSo.mk a L false f) (KW3.mk T ft) t = .ret (KSo.mk q L false f, KW3.mk T ft', T) ∧ a ≤ q ∧ q ≤ L ∧ FRel T ft' mt') ∨
    (∃ (q : Int) (ft' : Nat → Int) (tt : _), L203_Mo_sectionOf fu zk (KMt.mk f n) m1 mp zj zl z5 z6 z7 ze n1 r (KMc.mk a L) (KM3.mk T mt) t = .thr tt ∧ tt.1 = 1 ∧ L20_Rd_readFunctions fu n2 (KSo.mk a L false f) (KW3.mk T ft) t = .ret (KSo.mk q L true f, KW3.mk T ft', T) ∧ a ≤ q ∧ q ≤ L) := by
  intro j
  induction j with
  | zero =>
    intro t a r ft mt n1 n2 ht h0 h1 hn1 hn2 hR
    obtain ⟨n1, rfl⟩ : ∃ q, n1 = q + 1 := ⟨n1 - 1, by omega⟩
    obtain ⟨n2, rfl⟩ : ∃ q, n2 = q + 1 := ⟨n2 - 1, by omega⟩
    obtain rfl : t = T := by omega
    refine Or.inl ⟨a, ft, mt, ?_, fn_end (by omega), Int.le_refl _, h1, hR⟩
    rw [L203_Mo_sectionOf.eq_2, if_pos (show (KM3.mk t mt).functions ≤ t from Int.le_refl _)]
  | succ j ih =>
    intro t a r ft mt n1 n2 ht h0 h1 hn1 hn2 hR
    obtain ⟨n1, rfl⟩ : ∃ q, n1 = q + 1 := ⟨n1 - 1, by omega⟩
    obtain ⟨n2, rfl⟩ : ∃ q, n2 = q + 1 := ⟨n2 - 1, by omega⟩
    rw [L203_Mo_sectionOf.eq_2, if_neg (show ¬ (KM3.mk T mt).functions ≤ t by show ¬ (T : Int) ≤ t; omega), fn_step (by omega) (by omega)]
    rcases pr_idx (fu := fu) (f := f) (a := a) (L := L) (r := r) (n := n) hfu h0 h1 hL with ⟨q, x, v, e1, e2, e3, e4, e5, e6, e7, e8⟩ | ⟨c, q, v, e1, e2, e3, e4, rfl⟩
    · rw [e1, e2, obind2_ret, obind_ret, if_pos (show (0 : Int) ≤ t ∧ (t : Int) < 30 by omega), if_pos (show R32 ((t : Int) + 1) by omega)]
      dsimp only
      rw [e6]
      rcases ih (t + 1) q r _ _ n1 n2 (by omega) (by omega) e4 (by omega) (by omega) (hR.add e7 e8) with ⟨q2, ft', mt', o1, o2, o3, o4, o5⟩ | ⟨q2, ft', tt, o1, o2, o3, o4, o5⟩
      · exact Or.inl ⟨q2, ft', mt', o1, o2, by omega, o4, o5⟩
      · exact Or.inr ⟨q2, ft', tt, o1, o2, o3, by omega, o5⟩
    · rw [e1, e2, obind2_thr, obind_ret]
      obtain ⟨ft', o⟩ := fn_dead (fu := fu) (f := f) (a := q) (L := L) (by omega) hT j (t + 1) (updZ ft t (0 : Int64).toInt32.toInt) n2 (by omega) (by omega)
      exact Or.inr ⟨q, ft', _, rfl, rfl, o, e3, e4⟩
set_option maxRecDepth 20000 in
theorem fn_secD (hfu : 5 < fu) (w : KW3) : ∃ ft', f_Rd_readFunctions fu (KSo.mk a L true f) w = .ret (KSo.mk a L true f, KW3.mk 0 ft') := by
  obtain ⟨T0, ft⟩ := w
  unfold f_Rd_readFunctions
  rw [so_unsD (by omega), obind_ret]
  obtain ⟨ft', o⟩ := fn_dead (fu := fu) (f := f) (a := a) (L := L) (by omega) (T := 0) (by decide) 0 0 ft fu rfl (by omega)
  refine ⟨ft', ?_⟩
  show obind (L20_Rd_readFunctions fu fu (KSo.mk a L true f) (KW3.mk ((0 : Nat) : Int) ft) ((0 : Nat) : Int)) _ = _
  rw [o, obind_ret]; rfl
set_option maxRecDepth 20000 in
theorem fn_sec (hfu : 30 < fu) (h0 : 0 ≤ a) (h1 : a ≤ L) (hL : L ≤ 2000) (w : KW3) :
    (∃ (q : Int) (T : Nat) (ft : Nat → Int) (mt : Nat → Int64), f_Mo_sectionOf fu r (KMc.mk a L) zk (KMt.mk f n) m1 mp z3 zj zl z5 z6 z7 ze 3 = .ret (r, KMc.mk q L, zk, m1, mp, KM3.mk T mt, zj, zl, z5, z6, z7, ze) ∧ f_Rd_readFunctions fu (KSo.mk a L false f) w = .ret (KSo.mk q L false f, KW3.mk T ft) ∧ a ≤ q ∧ q ≤ L ∧ T ≤ 30 ∧ FRel T ft mt) ∨
    (∃ (q : Int) (T : Nat) (ft : Nat → Int) (tt : _), f_Mo_sectionOf fu r (KMc.mk a L) zk (KMt.mk f n) m1 mp z3 zj zl z5 z6 z7 ze 3 = .thr tt ∧ tt.1 = 1 ∧ f_Rd_readFunctions fu (KSo.mk a L false f) w = .ret (KSo.mk q L true f, KW3.mk T ft) ∧ a ≤ q ∧ q ≤ L ∧ T ≤ 30) := by
  obtain ⟨T0, ft⟩ := w
  obtain ⟨M0, mt⟩ := z3
  have e : f_Mo_sectionOf fu r (KMc.mk a L) zk (KMt.mk f n) m1 mp (M0, mt) zj zl z5 z6 z7 ze 3 = obind2 (f_Mo_few2 fu r (KMc.mk a L) (KMt.mk f n) 30) (fun x => obind2 (L203_Mo_sectionOf fu zk (KMt.mk f n) m1 mp zj zl z5 z6 z7 ze fu x.1 x.2.1 (KM3.mk x.2.2 mt) 0) (fun y => .ret (y.1, y.2.1, zk, m1, mp, y.2.2.1, zj, zl, z5, z6, z7, ze)) (fun t9 => .thr t9)) (fun x => .thr (x.1, x.2, zk, m1, mp, (M0, mt), zj, zl, z5, z6, z7, ze)) := by
    unfold f_Mo_sectionOf jp
    exact (if_neg (by decide)).trans (if_pos rfl)
  rw [e]
  unfold f_Rd_readFunctions
  rcases pr_few (fu := fu) (f := f) (a := a) (L := L) (r := r) (n := n) (most := 30) (by decide) (by omega) h0 h1 hL with ⟨q, T, v, e1, e2, e3, e4, e5, e6, e7, e8⟩ | ⟨c, q, v, e1, e2, e3, e4, rfl⟩
  · rw [e1, e2, obind2_ret, obind_ret]
    have e8 : T ≤ 30 := e8
    obtain ⟨T, rfl⟩ : ∃ k : Nat, T = (k : Int) := ⟨T.toNat, by omega⟩
    dsimp only
    rw [e6]
    have h := lp_fn (fu := fu) (f := f) (L := L) (n := n) (zk := zk) (m1 := m1) (mp := mp) (zj := zj) (zl := zl) (z5 := z5) (z6 := z6) (z7 := z7) (ze := ze) (by omega) hL (T := T) (by omega) T 0 q r ft mt fu fu (by omega) (by omega) e4 (by omega) (by omega) (fun k hk => by omega)
    rw [show ((0 : Nat) : Int) = 0 from rfl] at h
    rcases h with ⟨q2, ft', mt', o1, o2, o3, o4, o5⟩ | ⟨q2, ft', tt, o1, o2, o3, o4, o5⟩
    · refine Or.inl ⟨q2, T, ft', mt', ?_, ?_, by omega, o4, by omega, o5⟩
      · rw [o1, obind2_ret]
      · show obind (L20_Rd_readFunctions fu fu (KSo.mk q L false f) (KW3.mk T ft) 0) _ = _
        rw [o2, obind_ret]
    · refine Or.inr ⟨q2, T, ft', tt, ?_, o2, ?_, by omega, o5, by omega⟩
      · rw [o1, obind2_thr]
      · show obind (L20_Rd_readFunctions fu fu (KSo.mk q L false f) (KW3.mk T ft) 0) _ = _
        rw [o3, obind_ret]
  · rw [e1, e2, obind2_thr, obind_ret]
    obtain ⟨ft', o⟩ := fn_dead (fu := fu) (f := f) (a := q) (L := L) (by omega) (T := 0) (by decide) 0 0 ft fu rfl (by omega)
    refine Or.inr ⟨q, 0, ft', _, rfl, rfl, ?_, e3, e4, by decide⟩
    show obind (L20_Rd_readFunctions fu fu (KSo.mk q L true f) (KW3.mk ((0 : Nat) : Int) ft) ((0 : Nat) : Int)) _ = _
    rw [o, obind_ret]
end SE
/-! SECTIONS: the memory -/
section SM
variable {fu : Nat} {f : Nat → Int32} {a L n r : Int} {zk : KMk} {m1 : KM1} {mp : KMp} {z3 : KM3} {zj : KMj} {zl : KMl} {z5 : KM5} {z6 : KM6} {z7 : KM7} {ze : KMe}
set_option maxRecDepth 20000 in
theorem so_flag (h1 : 0 ≤ a) (h2 : a < L) (h3 : L ≤ 2000) : f_So_flag (KSo.mk a L false f) = if by8 (f a.toNat) ≤ 1 then .ret (KSo.mk (a + 1) L false f, decide (by8 (f a.toNat) = 1)) else .ret (KSo.mk (a + 1) L true f, decide (by8 (f a.toNat) = 1)) := by
  unfold f_So_flag
  rw [so_oct h1 h2 h3, obind_ret]
  generalize by8 (f a.toNat) = b
  simp only [jp]
  by_cases c1 : b ≤ 1
  · rw [if_pos c1, if_pos c1]
    by_cases c2 : b = 1
    · rw [if_pos c2, decide_eq_true c2]
    · rw [if_neg c2, decide_eq_false c2]
  · rw [if_neg c1, if_neg c1]
    by_cases c2 : b = 1
    · rw [if_pos c2, decide_eq_true c2]
    · rw [if_neg c2, decide_eq_false c2]
set_option maxRecDepth 20000 in
theorem so_flagE {b : Bool} (h : b = true ∨ L ≤ a) : f_So_flag (KSo.mk a L b f) = .ret (KSo.mk a L true f, false) := by
  unfold f_So_flag
  rw [so_octE h, obind_ret]
  rfl
set_option maxRecDepth 20000 in
theorem mem_secD (hfu : 5 < fu) (w : KW5) : f_Rd_readMemories fu (KSo.mk a L true f) w = .ret (KSo.mk a L true f, KW5.mk false w.pagesAtFirst w.pagesMost) := by
  unfold f_Rd_readMemories
  rw [so_unsD (by omega), obind_ret]
  rfl
set_option maxRecDepth 20000 in
theorem mem_sec (hfu : 30 < fu) (h0 : 0 ≤ a) (h1 : a ≤ L) (hL : L ≤ 2000) (w : KW5) :
    (∃ (q : Int) (w' : KW5) (m' : KM5), f_Mo_sectionOf fu r (KMc.mk a L) zk (KMt.mk f n) m1 mp z3 zj zl z5 z6 z7 ze 5 = .ret (r, KMc.mk q L, zk, m1, mp, z3, zj, zl, m', z6, z7, ze) ∧ f_Rd_readMemories fu (KSo.mk a L false f) w = .ret (KSo.mk q L false f, w') ∧ a ≤ q ∧ q ≤ L ∧
      ((w' = KW5.mk false w.pagesAtFirst w.pagesMost ∧ m'.memories = 0) ∨ (∃ (x y : Int64) (h : Bool), w' = KW5.mk true x y ∧ m' = KM5.mk 1 x y h ∧ uL x < 2 ^ 32 ∧ uL y < 2 ^ 32))) ∨
    (∃ (q : Int) (w' : KW5) (tt : _), f_Mo_sectionOf fu r (KMc.mk a L) zk (KMt.mk f n) m1 mp z3 zj zl z5 z6 z7 ze 5 = .thr tt ∧ tt.1 = 1 ∧ f_Rd_readMemories fu (KSo.mk a L false f) w = .ret (KSo.mk q L true f, w') ∧ a ≤ q ∧ q ≤ L) := by
  have e : f_Mo_sectionOf fu r (KMc.mk a L) zk (KMt.mk f n) m1 mp z3 zj zl z5 z6 z7 ze 5 = obind2 (f_Mo_few2 fu r (KMc.mk a L) (KMt.mk f n) 1) (fun x => if x.2.2 = 0 then .ret (x.1, x.2.1, zk, m1, mp, z3, zj, zl, KM5.mk x.2.2 z5.least z5.most z5.hasMost, z6, z7, ze) else obind2 (f_Mo_one x.1 x.2.1 (KMt.mk f n)) (fun y => if 1 < y.2.2 then .thr (1, y.2.1, zk, m1, mp, z3, zj, zl, KM5.mk x.2.2 z5.least z5.most z5.hasMost, z6, z7, ze) else obind2 (f_Mo_count fu y.1 y.2.1 (KMt.mk f n)) (fun u => if y.2.2 = 1 then obind2 (f_Mo_count fu u.1 u.2.1 (KMt.mk f n)) (fun v => .ret (v.1, v.2.1, zk, m1, mp, z3, zj, zl, KM5.mk x.2.2 u.2.2 v.2.2 true, z6, z7, ze)) (fun v => .thr (v.1, v.2, zk, m1, mp, z3, zj, zl, KM5.mk x.2.2 u.2.2 z5.most true, z6, z7, ze)) else .ret (u.1, u.2.1, zk, m1, mp, z3, zj, zl, KM5.mk x.2.2 u.2.2 65536 false, z6, z7, ze)) (fun u => .thr (u.1, u.2, zk, m1, mp, z3, zj, zl, KM5.mk x.2.2 z5.least z5.most (decide (y.2.2 = 1)), z6, z7, ze))) (fun y => .thr (y.1, y.2, zk, m1, mp, z3, zj, zl, KM5.mk x.2.2 z5.least z5.most z5.hasMost, z6, z7, ze))) (fun x => .thr (x.1, x.2, zk, m1, mp, z3, zj, zl, z5, z6, z7, ze)) := by
    unfold f_Mo_sectionOf
    simp only [jp]
    rw [if_neg (show ¬ (5 : Int) = 1 by decide), if_neg (show ¬ (5 : Int) = 3 by decide), if_pos trivial]
    congr 1; funext x
    by_cases c : x.2.2 = 0
    · rw [if_pos c, if_pos c]
    · rw [if_neg c, if_neg c]
      congr 1; funext y
      by_cases c1 : 1 < y.2.2
      · rw [if_pos c1, if_pos c1, mo_readE, obind2_thr]
      · rw [if_neg c1, if_neg c1, mo_read, obind2_ret]
        by_cases c2 : y.2.2 = 1
        · simp only [if_pos c2, decide_eq_true c2]
          rfl
        · simp only [if_neg c2, decide_eq_false c2]
          rfl
  rw [e]
  unfold f_Rd_readMemories
  rcases pr_few (fu := fu) (f := f) (a := a) (L := L) (r := r) (n := n) (most := 1) (by decide) (by omega) h0 h1 hL with ⟨q, N, v, e1, e2, e3, e4, e5, e6, e7, e8⟩ | ⟨c, q, v, e1, e2, e3, e4, rfl⟩
  · rw [e1, e2, obind2_ret, obind_ret]
    simp only [jp]
    have e8 : N ≤ 1 := e8
    rcases (show N = 0 ∨ N = 1 by omega) with rfl | rfl
    · rw [if_pos rfl, if_neg (show ¬ v = (1 : Int64) from fun q => by have := (i64_1 e5).mp q; omega)]
      exact Or.inl ⟨q, _, _, rfl, rfl, by omega, e4, Or.inl ⟨rfl, rfl⟩⟩
    · rw [if_neg (show ¬ (1 : Int) = 0 by decide), if_pos (show v = (1 : Int64) from (i64_1 e5).mpr rfl), if_pos trivial]
      by_cases ha : q < L
      · rw [mo_one (by omega) ha hL, so_flag (by omega) ha hL, obind2_ret]
        generalize by8 (f q.toNat) = b
        dsimp only
        by_cases hb : b ≤ 1
        · rw [if_neg (show ¬ 1 < b by omega), if_pos hb, obind_ret]
          dsimp only
          rcases pr_cnt (fu := fu) (f := f) (a := q + 1) (L := L) (r := r) (n := n) (by omega) (by omega) (by omega) hL with ⟨q2, x, x', k1, k2, k3, k4, rfl, k5⟩ | ⟨c, q2, x', k1, k2, k3, k4, rfl⟩
          · rw [k1, k2, obind2_ret, obind_ret]
            dsimp only
            by_cases hb1 : b = 1
            · rw [if_pos hb1, if_pos (decide_eq_true hb1)]
              rcases pr_cnt (fu := fu) (f := f) (a := q2) (L := L) (r := r) (n := n) (by omega) (by omega) k4 hL with ⟨q3, y, y', o1, o2, o3, o4, rfl, o5⟩ | ⟨c, q3, y', o1, o2, o3, o4, rfl⟩
              · rw [o1, o2, obind2_ret, obind_ret]
                exact Or.inl ⟨q3, _, _, rfl, rfl, by omega, o4, Or.inr ⟨x, y, true, rfl, rfl, k5, o5⟩⟩
              · rw [o1, o2, obind2_thr, obind_ret]
                exact Or.inr ⟨q3, _, _, rfl, rfl, rfl, by omega, o4⟩
            · rw [if_neg hb1, if_neg (by rw [decide_eq_false hb1]; decide)]
              exact Or.inl ⟨q2, _, _, rfl, rfl, by omega, k4, Or.inr ⟨x, 65536, false, rfl, rfl, k5, by decide⟩⟩
          · rw [k1, k2, obind2_thr, obind_ret]
            dsimp only
            rw [so_unsD (by omega)]
            by_cases hb1 : b = 1
            · rw [if_pos (decide_eq_true hb1), obind_ret]
              exact Or.inr ⟨q2, _, _, rfl, rfl, rfl, by omega, k4⟩
            · rw [if_neg (by rw [decide_eq_false hb1]; decide)]
              exact Or.inr ⟨q2, _, _, rfl, rfl, rfl, by omega, k4⟩
        · rw [if_pos (show 1 < b by omega), if_neg hb, obind_ret]
          dsimp only
          rw [so_unsD (by omega), obind_ret]
          dsimp only
          rw [so_unsD (by omega), if_neg (by rw [decide_eq_false (show ¬ b = 1 by omega)]; decide)]
          exact Or.inr ⟨q + 1, _, _, rfl, rfl, rfl, by omega, by omega⟩
      · rw [mo_oneE (by omega), so_flagE (Or.inr (by omega)), obind2_thr, obind_ret]
        dsimp only
        rw [so_unsD (by omega), obind_ret]
        dsimp only
        rw [if_neg (by decide)]
        exact Or.inr ⟨q, _, _, rfl, rfl, rfl, by omega, e4⟩
  · rw [e1, e2, obind2_thr, obind_ret]
    exact Or.inr ⟨q, _, _, rfl, rfl, rfl, e3, e4⟩
end SM
/-! SECTIONS: the globals; the class once it has failed -/
section SG6
variable {fu : Nat} {f : Nat → Int32} {a L : Int}
set_option maxRecDepth 20000 in
theorem so_fail {z : KSo} : f_So_fail z = .ret (KSo.mk z.at_ z.limit true z.bytes) := rfl
set_option maxRecDepth 20000 in
theorem iv_D {w : KW6} {g : Int} : f_Rd_readInitialValue fu (KSo.mk a L true f) w g = .ret (KSo.mk a L true f, w) := by
  unfold f_Rd_readInitialValue
  rw [so_octE (Or.inl rfl), obind_ret]
  simp only [jp]
  rw [if_neg (by decide), if_neg (by decide), so_fail, obind_ret]
  show obind (f_So_require (KSo.mk a L true f) 11) _ = _
  rw [so_reqE (Or.inl rfl), obind_ret]
set_option maxRecDepth 20000 in
theorem gl_end {z : KSo} {T t : Int} {gt it : Nat → Int} {gc : Nat → Bool} {iv : Nat → Int64} {n2 : Nat} (h : T ≤ t) : L20_Rd_readGlobals fu (n2 + 1) z (KW6.mk T gt gc it iv) t = .ret (z, KW6.mk T gt gc it iv, t) := by
  rw [L20_Rd_readGlobals.eq_2, if_pos h]
set_option maxRecDepth 20000 in
theorem gl_step {z : KSo} {T : Int} {t : Nat} {gt it : Nat → Int} {gc : Nat → Bool} {iv : Nat → Int64} {n2 : Nat} (h : ¬ T ≤ t) (ht : t < 20) : L20_Rd_readGlobals fu (n2 + 1) z (KW6.mk T gt gc it iv) t = obind (f_So_valueType z) (fun x => obind (f_So_flag x.1) (fun y => obind (f_Rd_readInitialValue fu y.1 (KW6.mk T (updZ gt t x.2) (updB gc t y.2) it iv) t) (fun u => L20_Rd_readGlobals fu n2 u.1 u.2 ((t + 1 : Nat) : Int)))) := by
  have hc : (0 : Int) ≤ t ∧ (t : Int) < 20 := by omega
  have hr : R32 ((t : Int) + 1) := by omega
  rw [L20_Rd_readGlobals.eq_2, if_neg (show ¬ (KW6.mk T gt gc it iv).globalCount ≤ t from h)]
  simp only [if_pos hc, if_pos hr, Int.toNat_natCast]
  rfl
set_option maxRecDepth 20000 in
theorem gl_dead {T : Nat} (hT : T ≤ 20) : ∀ (j t : Nat) (gt it : Nat → Int) (gc : Nat → Bool) (iv : Nat → Int64) (n2 : Nat), t + j = T → j < n2 → ∃ gt' gc', L20_Rd_readGlobals fu n2 (KSo.mk a L true f) (KW6.mk T gt gc it iv) t = .ret (KSo.mk a L true f, KW6.mk T gt' gc' it iv, T) := by
  intro j
  induction j with
  | zero =>
    intro t gt it gc iv n2 hk hn
    obtain ⟨n2, rfl⟩ : ∃ q, n2 = q + 1 := ⟨n2 - 1, by omega⟩
    exact ⟨gt, gc, (gl_end (by omega)).trans (by rw [show (t : Int) = T by omega])⟩
  | succ j ih =>
    intro t gt it gc iv n2 hk hn
    obtain ⟨n2, rfl⟩ : ∃ q, n2 = q + 1 := ⟨n2 - 1, by omega⟩
    obtain ⟨v, hv⟩ := so_vtD (f := f) (a := a) (L := L)
    rw [gl_step (by omega) (by omega), hv, obind_ret]
    show ∃ gt' gc', obind (f_So_flag (KSo.mk a L true f)) _ = _
    rw [so_flagE (Or.inl rfl), obind_ret]
    show ∃ gt' gc', obind (f_Rd_readInitialValue fu (KSo.mk a L true f) _ _) _ = _
    rw [iv_D, obind_ret]
    exact ih (t + 1) _ _ _ _ n2 (by omega) (by omega)
end SG6
