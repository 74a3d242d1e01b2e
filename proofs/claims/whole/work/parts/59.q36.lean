/-! VALID: blocks and branches -/
abbrev uT (e : Int) : Int := if e = 64 then 0 else e
def labA (F : SS) (v : Int) : Option Int := (F[v.toNat]?).map (fun x => x.2.2.1)
/-- all labels of a table carry the same -/
def tabOk (F : SS) (lab : Nat → Int) (last : Int) : Nat → Nat → Bool
  | 0, _ => true
  | n + 1, l => decide (labA F (lab l) = some last) && tabOk F lab last n (l + 1)
/-- what an instruction does to the types; k4: the innermost block is an if without else -/
def stV (M1 : KM1) (Mp : KMp) (M3 : KM3) (Mj : KMj) (Ml : KMl) (M5 : KM5) (M6 : KM6) (g : Nat) (lab : Nat → Int) (k4 : Prop) [Decidable k4] (o : Int) (v : Int64) (e : Int) (F : SS) : Option SS :=
  match F with
  | [] => none
  | x :: R =>
    if o = 0 then some (loseA x :: R)
    else if o = 1 then some (x :: R)
    else if o = 2 ∨ o = 3 then some (([], false, (if o = 3 then 0 else uT e), uT e) :: x :: R)
    else if o = 4 then (popA 127 x).map (fun y => ([], false, uT e, uT e) :: y.2 :: R)
    else if o = 5 then (popO x.2.2.2 x).bind (fun y => if y.1 = [] then some (([], false, x.2.2) :: R) else none)
    else if o = 11 then (popO x.2.2.2 x).bind (fun y => if y.1 = [] ∧ (k4 → x.2.2.2 = 0) then (match R with | [] => none | w :: R' => some (pushA x.2.2.2 w :: R')) else none)
    else if o = 12 then (labA (x :: R) v.toInt).bind (fun l => (popO l x).map (fun y => loseA y :: R))
    else if o = 13 then (labA (x :: R) v.toInt).bind (fun l => (popA 127 x).bind (fun y => (popO l y.2).map (fun z => pushA l z :: R)))
    else if o = 14 then (labA (x :: R) (lab (e.toNat + v.toInt.toNat))).bind (fun last => if tabOk (x :: R) lab last (v.toInt.toNat + 1) e.toNat = true then (popA 127 x).bind (fun y => (popO last y.2).map (fun z => loseA z :: R)) else none)
    else if o = 15 then (popO (res M1 M3 g) x).map (fun y => loseA y :: R)
    else (opF M1 Mp M3 Mj Ml M5 M6 g o v e x).map (fun y => y :: R)
/-- the class's row of openers -/
def OPv (op : Nat → Int) : List Nat → Prop
  | [] => op 0 = -1
  | o :: t => op (t.length + 1) = o ∧ OPv op t
/-- where a branch goes: an opener, or -1 -/
def tgt (stk : List Nat) (k : Nat) : Int := match stk[k]? with | some o => (o : Int) | none => -1
set_option maxRecDepth 20000 in
theorem OPv.cg {op op' : Nat → Int} : ∀ (l : List Nat), (∀ k, k ≤ l.length → op' k = op k) → OPv op l → OPv op' l
  | [], h, h1 => (h 0 (Nat.le_refl _)).trans h1
  | o :: t, h, ⟨h1, h2⟩ => ⟨(h _ (Nat.le_refl _)).trans h1, OPv.cg t (fun k hk => h k (Nat.le_succ_of_le hk)) h2⟩
set_option maxRecDepth 20000 in
theorem OPv.get {op : Nat → Int} : ∀ (l : List Nat) (k : Nat), k ≤ l.length → OPv op l → op (l.length - k) = tgt l k
  | [], 0, _, h => h
  | [], k + 1, h, _ => absurd h (by simp)
  | o :: t, 0, _, ⟨h1, _⟩ => h1
  | o :: t, k + 1, h, ⟨_, h2⟩ => by
    rw [List.length_cons, show t.length + 1 - (k + 1) = t.length - k by omega]
    exact OPv.get t k (by rw [List.length_cons] at h; omega) h2
set_option maxRecDepth 20000 in
theorem ROc.get {bo : KBo} : ∀ (F : SS) (k : Nat) (x : Fr), F[k]? = some x → ROc bo F → k < F.length ∧ bo.labelTypes (F.length - 1 - k) = rT x.2.2.1 ∧ Ty0 x.2.2.1
  | [], _, _, h, _ => by cases h
  | y :: R, 0, x, h, ⟨_, _, h3, _, h5, _, _⟩ => by cases h; exact ⟨by rw [List.length_cons]; omega, by rw [List.length_cons]; exact h3, h5⟩
  | y :: R, k + 1, x, h, ⟨_, _, _, _, _, _, h7⟩ => by
    obtain ⟨a, b, c⟩ := ROc.get R k x (by simpa using h) h7
    exact ⟨by rw [List.length_cons]; omega, by rw [List.length_cons, show R.length + 1 - 1 - (k + 1) = R.length - 1 - k by omega]; exact b, c⟩
set_option maxRecDepth 20000 in
theorem ROc.cg {bo bo' : KBo} : ∀ (F : SS), (∀ k, k < F.length → bo'.bases k = bo.bases k ∧ bo'.unreachable k = bo.unreachable k ∧ bo'.labelTypes k = bo.labelTypes k ∧ bo'.blockTypes k = bo.blockTypes k) → ROc bo F → ROc bo' F
  | [], _, _ => trivial
  | x :: R, h, ⟨h1, h2, h3, h4, h5, h6, h7⟩ => by
    obtain ⟨a, b, c, d⟩ := h R.length (by rw [List.length_cons]; omega)
    exact ⟨a.trans h1, b.trans h2, c.trans h3, d.trans h4, h5, h6, ROc.cg R (fun k hk => h k (by rw [List.length_cons]; omega)) h7⟩
section CCT
variable {g : Int} {R F : SS} {N : Nat} {bo : KBo} {bt : KBt} {Ct : KCt} {x : Fr} {stk : List Nat}
set_option maxRecDepth 20000 in
theorem c_lose (hB : BOk bo (x :: R)) (hT : RT bt (x :: R)) (hn : tot (x :: R) ≤ N) : ∃ bt' bo', f_BV_becomeUnreachable bt bo = .ret (bt', bo') ∧ RT bt' (loseA x :: R) ∧ BOk bo' (loseA x :: R) ∧ bo'.openers = bo.openers ∧ tot (loseA x :: R) ≤ N := by
  obtain ⟨⟨h1, h2, h3, h4, h5, h6, h7⟩, h8, h9⟩ := hB
  rw [List.length_cons] at h8 h9
  have e1 : (bo.openCount - 1).toNat = R.length := by omega
  unfold f_BV_becomeUnreachable
  rw [if_pos (show R32 (bo.openCount - 1) by omega), if_pos (show 0 ≤ bo.openCount - 1 ∧ bo.openCount - 1 < 101 by omega), if_pos (show R32 (bo.openCount - 1) by omega), if_pos (show 0 ≤ bo.openCount - 1 ∧ bo.openCount - 1 < 101 by omega), e1, h1]
  rw [tot_cons] at hn
  have et : tot (loseA x :: R) = tot R := by rw [tot_cons]; show 0 + tot R = _; omega
  refine ⟨_, _, rfl, ⟨et ▸ rfl, ?_⟩, ⟨⟨h1, updB_s _ _ _, h3, h4, h5, h6, ROc.cg (bo := bo) R (fun k hk => ⟨rfl, updB_n (show k ≠ R.length by omega), rfl, rfl⟩) h7⟩, by rw [List.length_cons]; exact h8, by rw [List.length_cons]; exact h9⟩, rfl, by omega⟩
  exact ALc.app x.1 (flat R) hT.2
set_option maxRecDepth 20000 in
theorem d_lose (hB : BOk bo (x :: R)) : ∃ bt' bo', f_BV_becomeUnreachable bt bo = .ret (bt', bo') := by
  obtain ⟨⟨h1, h2, h3, h4, h5, h6, h7⟩, h8, h9⟩ := hB
  rw [List.length_cons] at h8 h9
  unfold f_BV_becomeUnreachable
  rw [if_pos (show R32 (bo.openCount - 1) by omega), if_pos (show 0 ≤ bo.openCount - 1 ∧ bo.openCount - 1 < 101 by omega), if_pos (show R32 (bo.openCount - 1) by omega), if_pos (show 0 ≤ bo.openCount - 1 ∧ bo.openCount - 1 < 101 by omega)]
  exact ⟨_, _, rfl⟩
set_option maxRecDepth 20000 in
/-- a new block -/
theorem c_open {i : Nat} {lab out : Int} {hs ts lt : Nat → Int} (hi : i < 2000) (hl : Ty0 lab) (ho : Ty0 out) (hB : ROc bo F) (hc : bo.openCount = (F.length : Int)) (hF : F.length ≤ 100) (hT : RT bt F) : ∃ bo', f_BV_openBlock (KCt.mk hs ts lt) (KBV.mk g false) bt bo i (rT out) (rT lab) = .ret (KCt.mk (updZ hs i (tot F : Int)) ts lt, KBV.mk g false, bo') ∧ BOk bo' (([], false, lab, out) :: F) ∧ bo'.openers = updZ bo.openers F.length i := by
  have hR : 0 ≤ bo.openCount ∧ bo.openCount < 101 := by omega
  unfold f_BV_openBlock
  simp only [jp]
  rw [if_pos (show bo.openCount < 101 by omega), if_pos hR, if_pos hR, if_pos hR, if_pos hR, if_pos hR, if_pos (show R32 (bo.openCount + 1) by omega), if_neg (show ¬ (i : Int) < 0 by omega), if_pos (show (0 : Int) ≤ i ∧ (i : Int) < 2000 by omega), Int.toNat_natCast, hT.1, show bo.openCount.toNat = F.length by omega]
  refine ⟨_, rfl, ⟨⟨updZ_s _ _ _, updB_s _ _ _, updZ_s _ _ _, updZ_s _ _ _, hl, ho, ROc.cg F (fun k hk => ⟨updZ_n (by omega), updB_n (by omega), updZ_n (by omega), updZ_n (by omega)⟩) hB⟩, ?_, by rw [List.length_cons]; omega⟩, rfl⟩
  show bo.openCount + 1 = _
  rw [List.length_cons]; omega
set_option maxRecDepth 20000 in
theorem d_open {i : Nat} {t u : Int} (hi : i < 2000) (hc : 0 ≤ bo.openCount) (h1 : bo.openCount ≤ 101) : ∃ ct bo', f_BV_openBlock Ct (KBV.mk g true) bt bo i t u = .ret (ct, KBV.mk g true, bo') := by
  unfold f_BV_openBlock
  simp only [jp]
  by_cases c : bo.openCount < 101
  · have hR : 0 ≤ bo.openCount ∧ bo.openCount < 101 := by omega
    rw [if_pos c, if_pos hR, if_pos hR, if_pos hR, if_pos hR, if_pos hR, if_pos (show R32 (bo.openCount + 1) by omega), if_neg (show ¬ (i : Int) < 0 by omega), if_pos (show (0 : Int) ≤ i ∧ (i : Int) < 2000 by omega)]
    exact ⟨_, _, rfl⟩
  · rw [if_neg c]; exact ⟨_, _, rfl⟩
set_option maxRecDepth 20000 in
/-- the level of a label -/
theorem c_lev {v : Int64} (hc : bo.openCount = (F.length : Int)) (hF : F.length ≤ 101) (h0 : 0 ≤ v.toInt) (h1 : v.toInt ≤ 2147483647) : f_BV_levelOf bo v = .ret (if v.toInt < F.length then (F.length : Int) - 1 - v.toInt else -1) := by
  unfold f_BV_levelOf
  simp only [jp]
  rw [hc, Int32.toInt_toInt64, iI_t (by omega)]
  by_cases c : v.toInt < F.length
  · rw [if_neg (by omega), if_pos c, if_pos (show R32 ((F.length : Int) - 1) by omega)]
    have : v.toInt32 = iI v.toInt := by
      apply Int32.toInt_inj.mp
      rw [iI_t (by omega), Int64.toInt_toInt32, Int.bmod_eq_of_le (by omega) (by omega)]
    rw [this, iI_sub, iI_t (by omega)]
  · rw [if_pos (by omega), if_neg c]
set_option maxRecDepth 20000 in
theorem labA_some {v l : Int} (h0 : 0 ≤ v) (h : labA F v = some l) : ∃ x, F[v.toNat]? = some x ∧ x.2.2.1 = l ∧ v < F.length := by
  unfold labA at h
  cases e : F[v.toNat]? with
  | none => rw [e] at h; cases h
  | some x =>
    rw [e] at h
    cases h
    have := (List.getElem?_eq_some_iff.mp e).1
    exact ⟨x, rfl, rfl, by omega⟩
set_option maxRecDepth 20000 in
theorem labA_none {v : Int} (h0 : 0 ≤ v) (h : labA F v = none) : ¬ v < F.length := by
  unfold labA at h
  intro q
  have e : F[v.toNat]? = some F[v.toNat] := List.getElem?_eq_getElem (by omega)
  rw [e] at h
  cases h
/-- the whole of what the class has behind an instruction -/
def Cw (g : Int) (N : Nat) (stk : List Nat) (ct : KCt) (G : Out Empty (KCt × KBV × KBt × KBo)) (X : Option SS) : Prop := (∃ F bt bo, X = some F ∧ G = .ret (ct, KBV.mk g false, bt, bo) ∧ RT bt F ∧ BOk bo F ∧ OPv bo.openers stk ∧ tot F ≤ N) ∨ (∃ ct' bt bo, X = none ∧ G = .ret (ct', KBV.mk g true, bt, bo))
set_option maxRecDepth 20000 in
theorem Cw.dead {ct ct' : KCt} {G : Out Empty (KCt × KBV × KBt × KBo)} (h : ∃ ct bt bo, G = .ret (ct, KBV.mk g true, bt, bo)) : Cw g N stk ct' G none := by
  obtain ⟨a, b, c, e⟩ := h
  exact Or.inr ⟨a, b, c, rfl, e⟩
set_option maxRecDepth 20000 in
/-- a type for the class -/
theorem rT_uT {e : Int} (h : e = 64 ∨ e = 127 ∨ e = 126) : rT (uT e) = e ∧ Ty0 (uT e) := by
  rcases h with q | q | q <;> subst q <;> decide
set_option maxRecDepth 20000 in
theorem tot_nil (b : Bool) (l o : Int) (F : SS) : tot (([], b, l, o) :: F) = tot F := by rw [tot_cons]; show 0 + tot F = _; omega
set_option maxRecDepth 20000 in
theorem RT.nil {b : Bool} {l o : Int} (h : RT bt F) : RT bt (([], b, l, o) :: F) := ⟨by rw [tot_nil]; exact h.1, h.2⟩
end CCT
