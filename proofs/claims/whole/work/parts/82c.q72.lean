/-! RUN: numbers, each machine -/
set_option maxRecDepth 20000 in
theorem ob_eta {α β : Type} (P : Out Empty (α × β)) : obind P (fun x => (.ret (x.1, x.2) : Out Empty (α × β))) = P := by
  rcases P with _ | (x | x)
  · rfl
  · rfl
  · exact x.elim
set_option maxRecDepth 20000 in
theorem ob2_eta {σ τ α β : Type} (P : Out (σ × τ) (α × β)) : obind2 P (fun x => (.ret (x.1, x.2) : Out (σ × τ) (α × β))) (fun x => .thr (x.1, x.2)) = P := by
  rcases P with _ | (x | x) <;> rfl
set_option maxRecDepth 20000 in
theorem r_id {a : Int64} (h : R32 a.toInt) : a.toInt32.toInt64 = a := by
  apply Int64.toInt_inj.mp
  rw [Int32.toInt_toInt64, Int64.toInt_toInt32, Int.bmod_eq_of_le (by omega) (by omega)]
set_option maxRecDepth 20000 in
theorem nIn_ty (o : Int) : nIn o = 127 ∨ nIn o = 126 := by
  unfold nIn
  split
  · exact Or.inl rfl
  · exact Or.inr rfl
set_option maxRecDepth 20000 in
theorem nOut_ty (o : Int) : nOut o = 127 ∨ nOut o = 126 := by
  unfold nOut
  split
  · exact Or.inl rfl
  · split
    · exact Or.inr rfl
    · exact nIn_ty o
set_option maxRecDepth 20000 in
theorem num1 {i o : Int} {x y : Fr} (h : numA i o true x = some y) (hx : lv x) (hi : i = 127 ∨ i = 126) (ho : o = 127 ∨ o = 126) : lv y ∧ ∃ l', y.1 = o :: l' ∧ x.1 = i :: l' := by
  unfold numA at h
  obtain ⟨z, q1, q2⟩ := obnd_some h
  obtain ⟨k1, k2, k3, k4, k5⟩ := popA_live q1 hx
  have hz := k2 (by omega)
  rw [if_pos rfl] at q2
  obtain ⟨y1, y2⟩ := pushA_live (t := o) (x := z.2) (by omega) k4
  rw [Option.some.inj q2] at y1 y2
  rw [if_neg (by omega)] at y2
  exact ⟨y1, z.2.1, y2, by rw [k1, hz]⟩
set_option maxRecDepth 20000 in
theorem num2 {i o : Int} {x y : Fr} (h : numA i o false x = some y) (hx : lv x) (hi : i = 127 ∨ i = 126) (ho : o = 127 ∨ o = 126) : lv y ∧ ∃ l', y.1 = o :: l' ∧ x.1 = i :: i :: l' := by
  unfold numA at h
  obtain ⟨z, q1, q2⟩ := obnd_some h
  obtain ⟨k1, k2, k3, k4, k5⟩ := popA_live q1 hx
  have hz := k2 (by omega)
  rw [if_neg Bool.false_ne_true] at q2
  obtain ⟨u, q3, q4⟩ := omap_some q2
  obtain ⟨m1, m2, m3, m4, m5⟩ := popA_live q3 k4
  have hu := m2 (by omega)
  obtain ⟨y1, y2⟩ := pushA_live (t := o) (x := u.2) (by omega) m4
  rw [q4] at y1 y2
  rw [if_neg (by omega)] at y2
  exact ⟨y1, u.2.1, y2, by rw [k1, m1, hz, hu]⟩
section NMC
variable {fu h : Nat} {ma : KMa} {st vs : Nat → Int64} {o : Int} {r : KRf}
set_option maxRecDepth 20000 in
theorem cm_c1 (ho : o = 69 ∨ o = 80) (hpos : 0 < h) (hh : h ≤ 12096) : f_Ma_performComparison ma (KAs.mk st h) o = f_Ma_push ma (KAs.mk st ((h - 1 : Nat) : Int)) (if st (h - 1) = 0 then 1 else 0) := by
  unfold f_Ma_performComparison
  simp only [jp]
  have k : f_Ar_compares 69 (st (h - 1)) 0 = .ret (decide (st (h - 1) = 0)) := by
    unfold f_Ar_compares
    simp only [jp, Int.reduceEq, reduceIte]
    by_cases c : st (h - 1) = 0
    · rw [if_pos c, decide_eq_true c]
    · rw [if_neg c, decide_eq_false c]
  rcases ho with ho | ho <;> subst ho
  · simp only [Int.reduceLT, Int.reduceEq, reduceIte]
    rw [cm_pop hpos hh, obind_ret, k, obind_ret]
    by_cases c : st (h - 1) = 0
    · rw [decide_eq_true c, if_pos rfl, if_pos c, ob_eta]
    · rw [decide_eq_false c, if_neg Bool.false_ne_true, if_neg c, ob_eta]
  · simp only [Int.reduceLT, Int.reduceEq, Int.reduceSub, reduceIte]
    rw [if_pos (by decide), cm_pop hpos hh, obind_ret, k, obind_ret]
    by_cases c : st (h - 1) = 0
    · rw [decide_eq_true c, if_pos rfl, if_pos c, ob_eta]
    · rw [decide_eq_false c, if_neg Bool.false_ne_true, if_neg c, ob_eta]
set_option maxRecDepth 20000 in
theorem cm_c2 (ho : (70 ≤ o ∧ o ≤ 79) ∨ (81 ≤ o ∧ o ≤ 90)) (hpos : 1 < h) (hh : h ≤ 12096) {t : Bool} (k : f_Ar_compares (if o < 80 then o else o - 11) (st (h - 2)) (st (h - 1)) = .ret t) : f_Ma_performComparison ma (KAs.mk st h) o = f_Ma_push ma (KAs.mk st ((h - 2 : Nat) : Int)) (if t = true then 1 else 0) := by
  unfold f_Ma_performComparison
  simp only [jp]
  by_cases c : o < 80
  · rw [if_pos c] at k ⊢
    rw [if_neg (show ¬ o = 69 by omega), cm_pop (by omega) hh, obind_ret]
    dsimp only
    rw [cm_pop (by omega) (by omega), obind_ret]
    dsimp only
    rw [show h - 1 - 1 = h - 2 by omega, k, obind_ret]
    cases t
    · rw [if_neg Bool.false_ne_true, if_neg Bool.false_ne_true, ob_eta]
    · rw [if_pos rfl, if_pos rfl, ob_eta]
  · rw [if_neg c] at k ⊢
    rw [if_pos (show R32 (o - 11) by omega), if_neg (show ¬ o - 11 = 69 by omega), cm_pop (by omega) hh, obind_ret]
    dsimp only
    rw [cm_pop (by omega) (by omega), obind_ret]
    dsimp only
    rw [show h - 1 - 1 = h - 2 by omega, k, obind_ret]
    cases t
    · rw [if_neg Bool.false_ne_true, if_neg Bool.false_ne_true, ob_eta]
    · rw [if_pos rfl, if_pos rfl, ob_eta]
set_option maxRecDepth 20000 in
theorem cm_k32 (ho : 103 ≤ o ∧ o ≤ 105) (hpos : 0 < h) (hh : h ≤ 12096) {w : Int32} (k : f_Ar_countInt fu o (st (h - 1)).toInt32 = .ret w) : f_Ma_performInts fu ma (KAs.mk st h) o = f_Ma_push ma (KAs.mk st ((h - 1 : Nat) : Int)) w.toInt64 := by
  unfold f_Ma_performInts
  rw [if_neg (by omega), cm_pop hpos hh, obind_ret]
  dsimp only
  rw [k, obind_ret, ob_eta]
set_option maxRecDepth 20000 in
theorem cm_k64 (ho : 103 ≤ o ∧ o ≤ 105) (hpos : 0 < h) (hh : h ≤ 12096) {w : Int32} (k : f_Ar_countLong fu o (st (h - 1)) = .ret w) : f_Ma_performLongs fu ma (KAs.mk st h) o = f_Ma_push ma (KAs.mk st ((h - 1 : Nat) : Int)) w.toInt64 := by
  unfold f_Ma_performLongs
  rw [if_neg (by omega), cm_pop hpos hh, obind_ret]
  dsimp only
  rw [k, obind_ret, ob_eta]
set_option maxRecDepth 20000 in
theorem cm_b32 (ho : 106 ≤ o ∧ o ≤ 120) (hpos : 1 < h) (hh : h ≤ 12096) {c : Int} (k : f_Ar_reasonAgainst o (st (h - 2)).toInt32.toInt64 (st (h - 1)).toInt32.toInt64 (-2147483648) = .ret c) : f_Ma_performInts fu ma (KAs.mk st h) o = if c = 0 then obind (f_Ar_joinInts o (st (h - 2)).toInt32 (st (h - 1)).toInt32) (fun w => f_Ma_push (KMa.mk ma.steps c ma.next) (KAs.mk st ((h - 2 : Nat) : Int)) w.toInt64) else .ret (KMa.mk ma.steps c ma.next, KAs.mk st ((h - 2 : Nat) : Int)) := by
  unfold f_Ma_performInts
  simp only [jp]
  rw [if_pos (by omega), cm_pop (by omega) hh, obind_ret]
  dsimp only
  rw [cm_pop (by omega) (by omega), obind_ret]
  dsimp only
  rw [show h - 1 - 1 = h - 2 by omega, ← iI_of, ← iI_of, k, obind_ret]
  simp only [ob_eta]
set_option maxRecDepth 20000 in
theorem cm_b64 (ho : 106 ≤ o ∧ o ≤ 120) (hpos : 1 < h) (hh : h ≤ 12096) {c : Int} (k : f_Ar_reasonAgainst o (st (h - 2)) (st (h - 1)) lMin = .ret c) : f_Ma_performLongs fu ma (KAs.mk st h) o = if c = 0 then obind (f_Ar_joinLongs o (st (h - 2)) (st (h - 1))) (fun w => f_Ma_push (KMa.mk ma.steps c ma.next) (KAs.mk st ((h - 2 : Nat) : Int)) w) else .ret (KMa.mk ma.steps c ma.next, KAs.mk st ((h - 2 : Nat) : Int)) := by
  unfold f_Ma_performLongs
  simp only [jp]
  rw [if_pos (by omega), cm_pop (by omega) hh, obind_ret]
  dsimp only
  rw [cm_pop (by omega) (by omega), obind_ret]
  dsimp only
  rw [show h - 1 - 1 = h - 2 by omega, k, obind_ret]
  simp only [ob_eta]
/-! the reference -/
set_option maxRecDepth 20000 in
theorem nm_c1 (ho : o = 69 ∨ o = 80) (hpos : 0 < h) (hh : h ≤ 12096) : f_Mo_numbers fu r (KRs.mk vs h) o = f_Mo_pushValue r (KRs.mk vs ((h - 1 : Nat) : Int)) (if vs (h - 1) = 0 then 1 else 0) := by
  unfold f_Mo_numbers
  simp only [jp]
  rcases ho with ho | ho <;> subst ho
  · simp only [Int.reduceLT, Int.reduceLE, Int.reduceEq, Int.reduceSub, reduceIte, Bool.false_eq_true]
    rw [rm_pop hpos hh, obind_ret]
    dsimp only
    by_cases c : vs (h - 1) = 0
    · rw [if_pos c, if_pos c, ob2_eta]
    · rw [if_neg c, if_neg c, ob2_eta]
  · simp only [Int.reduceLT, Int.reduceLE, Int.reduceEq, Int.reduceSub, reduceIte, Bool.false_eq_true]
    rw [if_pos (by decide), rm_pop hpos hh, obind_ret]
    dsimp only
    by_cases c : vs (h - 1) = 0
    · rw [if_pos c, if_pos c, ob2_eta]
    · rw [if_neg c, if_neg c, ob2_eta]
set_option maxRecDepth 20000 in
theorem nm_c2 (ho : (70 ≤ o ∧ o ≤ 79) ∨ (81 ≤ o ∧ o ≤ 90)) (hpos : 1 < h) (hh : h ≤ 12096) {v : Int64} (k : ∀ small : Bool, f_Mo_compared (if o < 80 then o else o - 11) (vs (h - 2)) (vs (h - 1)) small = .ret v) : f_Mo_numbers fu r (KRs.mk vs h) o = f_Mo_pushValue r (KRs.mk vs ((h - 2 : Nat) : Int)) v := by
  unfold f_Mo_numbers
  simp only [jp]
  by_cases c : o < 80
  · rw [if_pos c] at k
    rw [if_neg (show ¬ o = 167 by omega), if_pos (show o < 172 by omega), if_pos (show o ≤ 79 by omega)]
    simp only [reduceIte]
    rw [rm_pop (by omega) hh, obind_ret]
    dsimp only
    rw [if_neg (show ¬ o = 69 by omega), if_pos (show o < 103 by omega), rm_pop (by omega) (by omega), obind_ret]
    dsimp only
    rw [if_neg (show ¬ 79 < o by omega), show h - 1 - 1 = h - 2 by omega, k, obind_ret, ob2_eta]
  · rw [if_neg c] at k
    rw [if_neg (show ¬ o = 167 by omega), if_pos (show o < 172 by omega), if_neg (show ¬ o ≤ 79 by omega), if_pos (show o < 103 by omega)]
    simp only [reduceIte, Bool.false_eq_true]
    rw [if_neg (show ¬ 90 < o by omega), if_pos (show R32 (o - 11) by omega), rm_pop (by omega) hh, obind_ret]
    dsimp only
    rw [if_neg (show ¬ o - 11 = 69 by omega), if_pos (show o - 11 < 103 by omega), rm_pop (by omega) (by omega), obind_ret]
    dsimp only
    rw [if_neg (show ¬ 79 < o - 11 by omega), show h - 1 - 1 = h - 2 by omega, k, obind_ret, ob2_eta]
set_option maxRecDepth 20000 in
theorem nm_k32 (ho : 103 ≤ o ∧ o ≤ 105) (hpos : 0 < h) (hh : h ≤ 12096) {v : Int64} (k : f_Mo_counted32 fu o (vs (h - 1)).toInt32 = .ret v) : f_Mo_numbers fu r (KRs.mk vs h) o = f_Mo_pushValue r (KRs.mk vs ((h - 1 : Nat) : Int)) v := by
  unfold f_Mo_numbers
  simp only [jp]
  rw [if_neg (show ¬ o = 167 by omega), if_pos (show o < 172 by omega), if_neg (show ¬ o ≤ 79 by omega), if_neg (show ¬ o < 103 by omega), if_neg (show ¬ 120 < o by omega)]
  simp only [reduceIte]
  rw [rm_pop hpos hh, obind_ret]
  dsimp only
  rw [if_neg (show ¬ o = 69 by omega), if_neg (show ¬ o < 103 by omega), if_neg (show ¬ 105 < o by omega), k, obind_ret, ob2_eta]
set_option maxRecDepth 20000 in
theorem nm_k64 (ho : 121 ≤ o ∧ o ≤ 123) (hpos : 0 < h) (hh : h ≤ 12096) {v : Int64} (k : f_Mo_counted64 fu (o - 18) (vs (h - 1)) = .ret v) : f_Mo_numbers fu r (KRs.mk vs h) o = f_Mo_pushValue r (KRs.mk vs ((h - 1 : Nat) : Int)) v := by
  unfold f_Mo_numbers
  simp only [jp]
  rw [if_neg (show ¬ o = 167 by omega), if_pos (show o < 172 by omega), if_neg (show ¬ o ≤ 79 by omega), if_neg (show ¬ o < 103 by omega), if_pos (show 120 < o by omega)]
  simp only [reduceIte, Bool.false_eq_true]
  rw [if_pos (show 90 < o by omega), if_pos (show R32 (o - 18) by omega), rm_pop hpos hh, obind_ret]
  dsimp only
  rw [if_neg (show ¬ o - 18 = 69 by omega), if_neg (show ¬ o - 18 < 103 by omega), if_neg (show ¬ 105 < o - 18 by omega), k, obind_ret, ob2_eta]
set_option maxRecDepth 20000 in
theorem nm_b32 (ho : 106 ≤ o ∧ o ≤ 120) (hpos : 1 < h) (hh : h ≤ 12096) : f_Mo_numbers fu r (KRs.mk vs h) o = obind2 (f_Mo_worked r o (vs (h - 2)) (vs (h - 1)) true) (fun x => f_Mo_pushValue x.1 (KRs.mk vs ((h - 2 : Nat) : Int)) x.2.toInt32.toInt64) (fun x => .thr (x, KRs.mk vs ((h - 2 : Nat) : Int))) := by
  unfold f_Mo_numbers
  simp only [jp]
  rw [if_neg (show ¬ o = 167 by omega), if_pos (show o < 172 by omega), if_neg (show ¬ o ≤ 79 by omega), if_neg (show ¬ o < 103 by omega), if_neg (show ¬ 120 < o by omega)]
  simp only [reduceIte]
  rw [rm_pop (by omega) hh, obind_ret]
  dsimp only
  rw [if_neg (show ¬ o = 69 by omega), if_neg (show ¬ o < 103 by omega), if_pos (show 105 < o by omega), rm_pop (by omega) (by omega), obind_ret]
  dsimp only
  rw [if_pos (show 79 < o by omega), show h - 1 - 1 = h - 2 by omega]
  simp only [ob2_eta]
set_option maxRecDepth 20000 in
theorem nm_b64 (ho : 124 ≤ o ∧ o ≤ 138) (hpos : 1 < h) (hh : h ≤ 12096) : f_Mo_numbers fu r (KRs.mk vs h) o = obind2 (f_Mo_worked r (o - 18) (vs (h - 2)) (vs (h - 1)) false) (fun x => f_Mo_pushValue x.1 (KRs.mk vs ((h - 2 : Nat) : Int)) x.2) (fun x => .thr (x, KRs.mk vs ((h - 2 : Nat) : Int))) := by
  unfold f_Mo_numbers
  simp only [jp]
  rw [if_neg (show ¬ o = 167 by omega), if_pos (show o < 172 by omega), if_neg (show ¬ o ≤ 79 by omega), if_neg (show ¬ o < 103 by omega), if_pos (show 120 < o by omega)]
  simp only [reduceIte, Bool.false_eq_true]
  rw [if_pos (show 90 < o by omega), if_pos (show R32 (o - 18) by omega), rm_pop (by omega) hh, obind_ret]
  dsimp only
  rw [if_neg (show ¬ o - 18 = 69 by omega), if_neg (show ¬ o - 18 < 103 by omega), if_pos (show 105 < o - 18 by omega), rm_pop (by omega) (by omega), obind_ret]
  dsimp only
  rw [if_pos (show 79 < o - 18 by omega), show h - 1 - 1 = h - 2 by omega]
  simp only [ob2_eta]
set_option maxRecDepth 20000 in
theorem nm_v (ho : o = 167 ∨ o = 172 ∨ o = 173) (hpos : 0 < h) (hh : h ≤ 12096) : f_Mo_numbers fu r (KRs.mk vs h) o = f_Mo_pushValue r (KRs.mk vs ((h - 1 : Nat) : Int)) (if o = 167 then (vs (h - 1)).toInt32.toInt64 else if o = 172 then vs (h - 1) else vs (h - 1) &&& 4294967295) := by
  unfold f_Mo_numbers
  simp only [jp]
  rcases ho with ho | ho | ho <;> subst ho
  · simp only [reduceIte]
    rw [rm_pop hpos hh, obind_ret]
    exact ob2_eta _
  · simp only [Int.reduceEq, Int.reduceLT, reduceIte]
    rw [rm_pop hpos hh, obind_ret]
    exact ob2_eta _
  · simp only [Int.reduceEq, Int.reduceLT, reduceIte]
    rw [rm_pop hpos hh, obind_ret]
    exact ob2_eta _
end NMC
