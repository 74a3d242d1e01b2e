/-! A PART OF THE TAPE: its size, its end -/
section NW
variable {fu : Nat} {f : Nat → Int32} {a L q : Int}
set_option maxRecDepth 20000 in
theorem nar_D (hfu : 0 < fu) (h0 : 0 ≤ a) (h1 : a ≤ L) (hL : L ≤ 2000) : f_So_narrow fu (KSo.mk a L true f) = .ret (KSo.mk a a true f, L) := by
  unfold f_So_narrow
  rw [so_unsD hfu, obind_ret]
  simp only [jp]
  have hr : R32 (L - a) := by omega
  rw [if_pos hr, if_pos (by rw [Int32.toInt_toInt64, iI_t hr]; show (0 : Int64).toInt ≤ _; rw [show (0 : Int64).toInt = 0 by decide]; omega)]
  have e : ((iI a) + (0 : Int64).toInt32).toInt = a := by
    rw [show (0 : Int64).toInt32 = iI 0 by decide, iI_add, iI_t (by omega)]; omega
  show Out.ret (KSo.mk a (((iI a) + (0 : Int64).toInt32).toInt) true f, L) = _
  rw [e]
set_option maxRecDepth 20000 in
theorem nar_ok {w : Int64} (e : f_So_unsigned fu (KSo.mk a L false f) 4294967295 = .ret (KSo.mk q L false f, w)) (h0 : 0 ≤ q) (h1 : q ≤ L) (hL : L ≤ 2000) (hw : uL w < 2 ^ 32) : f_So_narrow fu (KSo.mk a L false f) = if (uL w : Int) ≤ L - q then .ret (KSo.mk q (q + uL w) false f, L) else .ret (KSo.mk q L true f, L) := by
  unfold f_So_narrow
  rw [e, obind_ret]
  simp only [jp]
  have hr : R32 (L - q) := by omega
  have ht : w.toInt = (uL w : Int) := uL_toInt (by omega)
  rw [if_pos hr]
  show (if w.toInt ≤ ((iI (L - q)).toInt64).toInt then _ else _) = _
  rw [Int32.toInt_toInt64, iI_t hr, ht]
  by_cases c : (uL w : Int) ≤ L - q
  · rw [if_pos c, if_pos c]
    have e2 : w.toInt32 = iI (uL w) := by
      apply Int32.toInt_inj.mp
      rw [uL_i32 (by omega), iI_t (by omega)]
    show Out.ret (KSo.mk q (((iI q) + w.toInt32).toInt) false f, L) = _
    rw [e2, iI_add, iI_t (by omega)]
  · rw [if_neg c, if_neg c]
set_option maxRecDepth 20000 in
theorem nar_bad {z : KSo} (e : f_So_unsigned fu (KSo.mk a L false f) 4294967295 = .ret (KSo.mk q L true f, 0)) (h0 : 0 ≤ q) (h1 : q ≤ L) (hL : L ≤ 2000) : f_So_narrow fu (KSo.mk a L false f) = .ret (KSo.mk q q true f, L) := by
  unfold f_So_narrow
  rw [e, obind_ret]
  simp only [jp]
  have hr : R32 (L - q) := by omega
  rw [if_pos hr, if_pos (by rw [Int32.toInt_toInt64, iI_t hr]; show (0 : Int64).toInt ≤ _; rw [show (0 : Int64).toInt = 0 by decide]; omega)]
  have e2 : ((iI q) + (0 : Int64).toInt32).toInt = q := by
    rw [show (0 : Int64).toInt32 = iI 0 by decide, iI_add, iI_t (by omega)]; omega
  show Out.ret (KSo.mk q (((iI q) + (0 : Int64).toInt32).toInt) true f, L) = _
  rw [e2]
set_option maxRecDepth 20000 in
theorem wid {b : Bool} {o : Int} : f_So_widen (KSo.mk a L b f) o = .ret (KSo.mk a o (if a = L then b else true) f) := by
  unfold f_So_widen
  simp only [jp]
  by_cases c : a = L
  · rw [if_pos (show (KSo.mk a L b f).at_ = (KSo.mk a L b f).limit from c), if_pos c]
  · rw [if_neg (show ¬ (KSo.mk a L b f).at_ = (KSo.mk a L b f).limit from c), if_neg c]
end NW
section CU
variable {fu : Nat} {f : Nat → Int32} {a L q : Int}
set_option maxRecDepth 20000 in
theorem cus_D (hfu : 0 < fu) (h0 : 0 ≤ a) (h1 : a ≤ L) (hL : L ≤ 2000) : f_Rd_readCustom fu (KSo.mk a L true f) = .ret (KSo.mk L L true f) := by
  have hr : R32 (L - a) := by omega
  have hl : f_So_left (KSo.mk a L true f) = .ret (L - a) := by unfold f_So_left; rw [if_pos (show R32 ((KSo.mk a L true f).limit - (KSo.mk a L true f).at_) from hr)]
  unfold f_Rd_readCustom
  rw [so_unsD hfu, obind_ret, hl, obind_ret]
  simp only [jp]
  rw [if_pos (by rw [Int32.toInt_toInt64, iI_t hr]; show (0 : Int64).toInt ≤ _; rw [show (0 : Int64).toInt = 0 by decide]; omega)]
  rfl
set_option maxRecDepth 20000 in
theorem cus_ok {w : Int64} (e : f_So_unsigned fu (KSo.mk a L false f) 4294967295 = .ret (KSo.mk q L false f, w)) (h0 : 0 ≤ q) (h1 : q ≤ L) (hL : L ≤ 2000) (hw : uL w < 2 ^ 32) : f_Rd_readCustom fu (KSo.mk a L false f) = if (uL w : Int) ≤ L - q then .ret (KSo.mk L L false f) else .ret (KSo.mk L L true f) := by
  have hr : R32 (L - q) := by omega
  have hl : f_So_left (KSo.mk q L false f) = .ret (L - q) := by unfold f_So_left; rw [if_pos (show R32 ((KSo.mk q L false f).limit - (KSo.mk q L false f).at_) from hr)]
  have ht : w.toInt = (uL w : Int) := uL_toInt (by omega)
  unfold f_Rd_readCustom
  rw [e, obind_ret, hl, obind_ret]
  simp only [jp]
  show (if w.toInt ≤ ((iI (L - q)).toInt64).toInt then _ else _) = _
  rw [Int32.toInt_toInt64, iI_t hr, ht]
  by_cases c : (uL w : Int) ≤ L - q
  · rw [if_pos c, if_pos c]; rfl
  · rw [if_neg c, if_neg c]; rfl
end CU
