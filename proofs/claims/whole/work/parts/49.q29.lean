/-! VALID: the types on the stack, block by block -/
/-- an open block as validators see it: its own values (the topmost first), whether nothing can be reached there, what a branch to it carries, what it gives -/
abbrev Fr : Type := List Int × Bool × Int × Int
abbrev SS : Type := List Fr
def popA (w : Int) (x : Fr) : Option (Int × Fr) :=
  match x.1 with
  | [] => if x.2.1 = true then some (if w = 0 then -1 else w, x) else none
  | t :: r => if t = w ∨ w ≤ 0 ∨ t = -1 then some (if t = -1 ∧ 0 < w then w else t, (r, x.2)) else none
def popO (w : Int) (x : Fr) : Option Fr := if w = 0 then some x else (popA w x).map Prod.snd
def pushA (t : Int) (x : Fr) : Fr := if t = 0 then x else (t :: x.1, x.2)
def loseA (x : Fr) : Fr := ([], true, x.2.2)
/-- all values, the topmost first -/
def flat : SS → List Int
  | [] => []
  | x :: R => x.1 ++ flat R
def tot (F : SS) : Nat := (flat F).length
set_option maxRecDepth 20000 in
theorem tot_cons (x : Fr) (R : SS) : tot (x :: R) = x.1.length + tot R := by show (x.1 ++ flat R).length = _; rw [List.length_append]; rfl
/-- the class's word for a type that is not known -/
def vt (x : Int) : Int := if x = -1 then 0 else x
abbrev TyS (x : Int) : Prop := x = -1 ∨ x = 127 ∨ x = 126
abbrev Ty0 (x : Int) : Prop := x = 0 ∨ x = 127 ∨ x = 126
/-- the class's row of types -/
def ALc (ty : Nat → Int) : List Int → Prop
  | [] => True
  | x :: t => ty t.length = vt x ∧ TyS x ∧ ALc ty t
/-- the reference's -/
def ALr (sk : Nat → Int) : List Int → Prop
  | [] => True
  | x :: t => sk t.length = x ∧ TyS x ∧ ALr sk t
def RT (bt : KBt) (F : SS) : Prop := bt.height = tot F ∧ ALc bt.types (flat F)
def ST (z : KVt) (F : SS) : Prop := z.top = tot F ∧ ALr z.stack (flat F)
/-- the class's rows of open blocks -/
def ROc (bo : KBo) : SS → Prop
  | [] => True
  | x :: R => bo.bases R.length = tot R ∧ bo.unreachable R.length = x.2.1 ∧ bo.labelTypes R.length = rT x.2.2.1 ∧ bo.blockTypes R.length = rT x.2.2.2 ∧ Ty0 x.2.2.1 ∧ Ty0 x.2.2.2 ∧ ROc bo R
def ROr (vo : KVo) : SS → Prop
  | [] => True
  | x :: R => vo.heights R.length = tot R ∧ vo.lost R.length = x.2.1 ∧ vo.labels R.length = x.2.2.1 ∧ vo.outs R.length = x.2.2.2 ∧ Ty0 x.2.2.1 ∧ Ty0 x.2.2.2 ∧ ROr vo R
section ALS
set_option maxRecDepth 20000 in
theorem ALc.cg {ty ty' : Nat → Int} : ∀ (l : List Int), (∀ k, k < l.length → ty' k = ty k) → ALc ty l → ALc ty' l
  | [], _, _ => trivial
  | x :: t, h, ⟨h1, h2, h3⟩ => ⟨by rw [h t.length (by rw [List.length_cons]; omega)]; exact h1, h2, ALc.cg t (fun k hk => h k (by rw [List.length_cons]; omega)) h3⟩
set_option maxRecDepth 20000 in
theorem ALr.cg {ty ty' : Nat → Int} : ∀ (l : List Int), (∀ k, k < l.length → ty' k = ty k) → ALr ty l → ALr ty' l
  | [], _, _ => trivial
  | x :: t, h, ⟨h1, h2, h3⟩ => ⟨by rw [h t.length (by rw [List.length_cons]; omega)]; exact h1, h2, ALr.cg t (fun k hk => h k (by rw [List.length_cons]; omega)) h3⟩
set_option maxRecDepth 20000 in
theorem ALc.app {ty : Nat → Int} : ∀ (l t : List Int), ALc ty (l ++ t) → ALc ty t
  | [], _, h => h
  | _ :: l, t, h => ALc.app l t h.2.2
set_option maxRecDepth 20000 in
theorem ALr.app {ty : Nat → Int} : ∀ (l t : List Int), ALr ty (l ++ t) → ALr ty t
  | [], _, h => h
  | _ :: l, t, h => ALr.app l t h.2.2
set_option maxRecDepth 20000 in
theorem popA_len {w : Int} {x : Fr} {y : Int × Fr} (h : popA w x = some y) : y.2.1.length ≤ x.1.length ∧ y.2.2.2 = x.2.2 ∧ y.2.2.1 = x.2.1 := by
  obtain ⟨vs, b⟩ := x
  unfold popA at h
  cases vs with
  | nil =>
    dsimp only at h
    by_cases c : b.1 = true
    · rw [if_pos c] at h; cases h; exact ⟨Nat.le_refl _, rfl, rfl⟩
    · rw [if_neg c] at h; cases h
  | cons t r =>
    dsimp only at h
    by_cases c : t = w ∨ w ≤ 0 ∨ t = -1
    · rw [if_pos c] at h; cases h; exact ⟨Nat.le_succ _, rfl, rfl⟩
    · rw [if_neg c] at h; cases h
set_option maxRecDepth 20000 in
theorem popO_len {w : Int} {x y : Fr} (h : popO w x = some y) : y.1.length ≤ x.1.length ∧ y.2.2 = x.2.2 ∧ y.2.1 = x.2.1 := by
  unfold popO at h
  by_cases c : w = 0
  · rw [if_pos c] at h; cases h; exact ⟨Nat.le_refl _, rfl, rfl⟩
  · rw [if_neg c] at h
    cases e : popA w x with
    | none => rw [e] at h; cases h
    | some z => rw [e] at h; cases h; exact popA_len e
end ALS
/-! the class -/
/-- heights that a class which has failed may have -/
abbrev Hb (bt : KBt) : Prop := 0 ≤ bt.height ∧ bt.height ≤ 2000
/-- blocks that a class which has failed may have -/
abbrev Sf (bo : KBo) : Prop := 1 ≤ bo.openCount ∧ bo.openCount ≤ 101
/-- the class goes on with X, or has failed where there is none -/
def Cv (g : Int) (R : SS) (N : Nat) (G : Out Empty (KBV × KBt)) (X : Option Fr) : Prop := (∃ y bt, X = some y ∧ G = .ret (KBV.mk g false, bt) ∧ RT bt (y :: R) ∧ tot (y :: R) ≤ N) ∨ (∃ bt, X = none ∧ G = .ret (KBV.mk g true, bt) ∧ Hb bt)
def Cvp (g : Int) (R : SS) (N : Nat) (G : Out Empty (KBV × KBt × Int)) (X : Option (Int × Fr)) : Prop := (∃ y bt, X = some y ∧ G = .ret (KBV.mk g false, bt, vt y.1) ∧ TyS y.1 ∧ RT bt (y.2 :: R) ∧ tot (y.2 :: R) ≤ N) ∨ (∃ bt v, X = none ∧ G = .ret (KBV.mk g true, bt, v) ∧ Hb bt)
def Dv (g : Int) (G : Out Empty (KBV × KBt)) : Prop := ∃ bt, G = .ret (KBV.mk g true, bt) ∧ Hb bt
section CVS
variable {g : Int} {R : SS} {N N' : Nat} {bo : KBo} {bt : KBt} {x : Fr}
set_option maxRecDepth 20000 in
theorem Cvp.bind {G : Out Empty (KBV × KBt × Int)} {X : Option (Int × Fr)} {H : KBV × KBt × Int → Out Empty (KBV × KBt)} {K : Int × Fr → Option Fr} (h : Cvp g R N G X) (hk : ∀ y bt, X = some y → TyS y.1 → RT bt (y.2 :: R) → tot (y.2 :: R) ≤ N → Cv g R N' (H (KBV.mk g false, bt, vt y.1)) (K y)) (hd : ∀ bt v, Hb bt → Dv g (H (KBV.mk g true, bt, v))) : Cv g R N' (obind G H) (X.bind K) := by
  rcases h with ⟨y, bt, rfl, rfl, h1, h2, h3⟩ | ⟨bt, v, rfl, rfl, h1⟩
  · rw [obind_ret]; exact hk y bt rfl h1 h2 h3
  · obtain ⟨bt', e, h2⟩ := hd bt v h1
    rw [obind_ret, e]; exact Or.inr ⟨bt', rfl, rfl, h2⟩
set_option maxRecDepth 20000 in
theorem Cvp.map {G : Out Empty (KBV × KBt × Int)} {X : Option (Int × Fr)} {H : KBV × KBt × Int → Out Empty (KBV × KBt)} {K : Int × Fr → Fr} (h : Cvp g R N G X) (hk : ∀ y bt, X = some y → TyS y.1 → RT bt (y.2 :: R) → tot (y.2 :: R) ≤ N → Cv g R N' (H (KBV.mk g false, bt, vt y.1)) (some (K y))) (hd : ∀ bt v, Hb bt → Dv g (H (KBV.mk g true, bt, v))) : Cv g R N' (obind G H) (X.map K) := by
  have := h.bind (K := fun y => some (K y)) hk hd
  cases X <;> exact this
set_option maxRecDepth 20000 in
theorem Cv.ret {y : Fr} (h : RT bt (y :: R)) (hn : tot (y :: R) ≤ N) : Cv g R N (.ret (KBV.mk g false, bt)) (some y) := Or.inl ⟨y, bt, rfl, rfl, h, hn⟩
set_option maxRecDepth 20000 in
theorem Cv.no (h : Hb bt) : Cv g R N (.ret (KBV.mk g true, bt)) none := Or.inr ⟨bt, rfl, rfl, h⟩
set_option maxRecDepth 20000 in
theorem Dv.ret (h : Hb bt) : Dv g (.ret (KBV.mk g true, bt)) := ⟨bt, rfl, h⟩
set_option maxRecDepth 20000 in
theorem RT.Hb (h : RT bt (x :: R)) (hn : tot (x :: R) ≤ 2000) : Hb bt := by
  have := h.1
  constructor <;> omega
set_option maxRecDepth 20000 in
theorem d_pop {w : Int} (hs : Sf bo) (hb : Hb bt) (h0 : ∀ k, 0 ≤ bo.bases k) : ∃ bt' v, f_BV_pop (KBV.mk g true) bt bo w = .ret (KBV.mk g true, bt', v) ∧ Hb bt' := by
  obtain ⟨ty, h⟩ := bt
  unfold f_BV_pop
  simp only [jp]
  by_cases c : w = 64
  · rw [if_pos c]; exact ⟨_, _, rfl, hb⟩
  rw [if_neg c, if_pos (show R32 (bo.openCount - 1) by omega), if_pos (show 0 ≤ bo.openCount - 1 ∧ bo.openCount - 1 < 101 by omega)]
  have hb2 := h0 (bo.openCount - 1).toNat
  have hb : 0 ≤ h ∧ h ≤ 2000 := hb
  by_cases c2 : bo.bases (bo.openCount - 1).toNat < (KBt.height (ty, h))
  · have c3 : bo.bases (bo.openCount - 1).toNat < h := c2
    rw [if_pos c2, if_pos (show R32 (h - 1) by omega), if_pos (show 0 ≤ h - 1 ∧ h - 1 < 2000 by omega)]
    have q : Hb (KBt.mk ty (h - 1)) := by constructor <;> dsimp only [KBt.mk, KBt.height] <;> omega
    by_cases c4 : KBt.types (ty, h) (h - 1).toNat = 0
    · rw [if_pos c4]; exact ⟨_, _, rfl, q⟩
    · rw [if_neg c4]
      by_cases c5 : w = 0
      · rw [if_pos c5]; exact ⟨_, _, rfl, q⟩
      · rw [if_neg c5]
        by_cases c6 : w = KBt.types (ty, h) (h - 1).toNat
        · rw [if_pos c6]; exact ⟨_, _, rfl, q⟩
        · rw [if_neg c6]; exact ⟨_, _, rfl, q⟩
  · rw [if_neg c2, if_pos trivial]; exact ⟨_, _, rfl, hb⟩
set_option maxRecDepth 20000 in
theorem d_push {t : Int} (hb : Hb bt) : Dv g (f_BV_push (KBV.mk g true) bt t) := by
  obtain ⟨ty, h⟩ := bt
  have hb : 0 ≤ h ∧ h ≤ 2000 := hb
  unfold f_BV_push
  by_cases c : t = 64
  · rw [if_pos c]; exact ⟨_, rfl, hb⟩
  rw [if_neg c]
  by_cases c2 : KBt.height (ty, h) < 2000
  · have c3 : h < 2000 := c2
    rw [if_pos c2, if_pos (show 0 ≤ KBt.height (ty, h) ∧ KBt.height (ty, h) < 2000 from ⟨hb.1, c3⟩), if_pos (show R32 (h + 1) by omega)]
    exact ⟨_, rfl, by constructor <;> dsimp only [KBt.mk, KBt.height] <;> omega⟩
  · rw [if_neg c2]; exact ⟨_, rfl, hb⟩
set_option maxRecDepth 20000 in
theorem Dv.pop {w : Int} {H : KBV × KBt × Int → Out Empty (KBV × KBt)} (hs : Sf bo) (hb : Hb bt) (h0 : ∀ k, 0 ≤ bo.bases k) (hk : ∀ bt v, Hb bt → Dv g (H (KBV.mk g true, bt, v))) : Dv g (obind (f_BV_pop (KBV.mk g true) bt bo w) H) := by
  obtain ⟨bt', v, e, h⟩ := d_pop (g := g) (w := w) hs hb h0
  rw [e, obind_ret]; exact hk bt' v h
set_option maxRecDepth 20000 in
theorem Dv.bind {G : Out Empty (KBV × KBt)} {H : KBV × KBt → Out Empty (KBV × KBt)} (h : Dv g G) (hk : ∀ bt, Hb bt → Dv g (H (KBV.mk g true, bt))) : Dv g (obind G H) := by
  obtain ⟨bt', e, h⟩ := h
  rw [e, obind_ret]; exact hk bt' h
set_option maxRecDepth 20000 in
theorem Cv.bind {G : Out Empty (KBV × KBt)} {X : Option Fr} {H : KBV × KBt → Out Empty (KBV × KBt)} {K : Fr → Option Fr} (h : Cv g R N G X) (hk : ∀ y bt, X = some y → RT bt (y :: R) → tot (y :: R) ≤ N → Cv g R N' (H (KBV.mk g false, bt)) (K y)) (hd : ∀ bt, Hb bt → Dv g (H (KBV.mk g true, bt))) : Cv g R N' (obind G H) (X.bind K) := by
  rcases h with ⟨y, bt, rfl, rfl, h2, h3⟩ | ⟨bt, rfl, rfl, h1⟩
  · rw [obind_ret]; exact hk y bt rfl h2 h3
  · obtain ⟨bt', e, h2⟩ := hd bt h1
    rw [obind_ret, e]; exact Or.inr ⟨bt', rfl, rfl, h2⟩
set_option maxRecDepth 20000 in
theorem Dv.Cv {G : Out Empty (KBV × KBt)} (h : Dv g G) : Cv g R N G none := by
  obtain ⟨bt, e, h⟩ := h
  exact Or.inr ⟨bt, rfl, e, h⟩
set_option maxRecDepth 20000 in
/-- a value is taken -/
theorem c_pop {w : Int} (hw : Ty0 w) (hT : RT bt (x :: R)) (hO : ROc bo (x :: R)) (hc : bo.openCount = ((x :: R).length : Int)) (hl : (x :: R).length ≤ 101) (hn : tot (x :: R) ≤ N) (hN : N ≤ 2000) : Cvp g R N (f_BV_pop (KBV.mk g false) bt bo w) (popA w x) := by
  obtain ⟨ty, h⟩ := bt
  obtain ⟨vs, lost, lab, out⟩ := x
  obtain ⟨hT1, hT2⟩ := hT
  obtain ⟨o1, o2, o3, o4, o5, o6, o7⟩ := hO
  rw [List.length_cons] at hc hl
  have hT1 : h = tot ((vs, lost, lab, out) :: R) := hT1
  rw [tot_cons] at hT1 hn
  dsimp only at hT1 hn o2
  have e1 : (bo.openCount - 1).toNat = R.length := by omega
  unfold f_BV_pop
  simp only [jp]
  rw [if_neg (show ¬ w = 64 by rcases hw with q | q | q <;> omega), if_pos (show R32 (bo.openCount - 1) by omega), if_pos (show 0 ≤ bo.openCount - 1 ∧ bo.openCount - 1 < 101 by omega), e1, o1]
  unfold popA
  cases vs with
  | nil =>
    have hT1 : h = ((0 + tot R : Nat) : Int) := hT1
    rw [if_neg (show ¬ (tot R : Int) < KBt.height (ty, h) by show ¬ (tot R : Int) < h; omega), if_neg (show ¬ KBV.failed (KBV.mk g false) = true from Bool.false_ne_true), if_pos (show R32 (bo.openCount - 1) by omega), if_pos (show 0 ≤ bo.openCount - 1 ∧ bo.openCount - 1 < 101 by omega), o2]
    dsimp only
    by_cases c : lost = true
    · rw [if_pos c, if_pos c]
      refine Or.inl ⟨_, _, rfl, ?_, ?_, ⟨(show h = ((tot (([], lost, lab, out) :: R) : Nat) : Int) by rw [tot_cons]; exact hT1), hT2⟩, by rw [tot_cons]; exact hn⟩
      · dsimp only
        rcases hw with q | q | q <;> subst q <;> rfl
      · dsimp only
        rcases hw with q | q | q <;> subst q <;> decide
    · rw [if_neg c, if_neg c]
      exact Or.inr ⟨_, _, rfl, rfl, by constructor <;> dsimp only [KBt.height] <;> omega⟩
  | cons t r =>
    obtain ⟨a1, a2, a3⟩ := hT2
    rw [List.length_cons] at hT1 hn
    have eh : (h - 1).toNat = (r ++ flat R).length := by rw [List.length_append]; show _ = r.length + tot R; omega
    rw [if_pos (show (tot R : Int) < KBt.height (ty, h) by show (tot R : Int) < h; omega), if_pos (show R32 (KBt.height (ty, h) - 1) by show R32 (h - 1); omega), if_pos (show 0 ≤ KBt.height (ty, h) - 1 ∧ KBt.height (ty, h) - 1 < 2000 by show 0 ≤ h - 1 ∧ h - 1 < 2000; omega)]
    have e2 : KBt.types (ty, h) (KBt.height (ty, h) - 1).toNat = vt t := by
      show ty (h - 1).toNat = vt t
      rw [eh]; exact a1
    rw [e2]
    have rt : RT (KBt.mk ty (h - 1)) ((r, lost, lab, out) :: R) := ⟨by show h - 1 = ((tot ((r, lost, lab, out) :: R) : Nat) : Int); rw [tot_cons]; dsimp only; omega, a3⟩
    have hn2 : tot ((r, lost, lab, out) :: R) ≤ N := by rw [tot_cons]; dsimp only; omega
    have hb : Hb (KBt.mk ty (h - 1)) := by constructor <;> dsimp only [KBt.mk, KBt.height] <;> omega
    dsimp only
    by_cases ct : t = -1
    · subst ct
      rw [if_pos (show vt (-1) = 0 from rfl), if_pos (Or.inr (Or.inr rfl))]
      refine Or.inl ⟨_, _, rfl, ?_, ?_, rt, hn2⟩
      · dsimp only
        rcases hw with q | q | q <;> subst q <;> rfl
      · dsimp only
        rcases hw with q | q | q <;> subst q <;> decide
    · have ev : vt t = t := if_neg ct
      have a2' : t = 127 ∨ t = 126 := by rcases a2 with q | q | q; exact absurd q ct; exact Or.inl q; exact Or.inr q
      rw [ev, if_neg (show ¬ t = 0 by omega)]
      by_cases cw : w = 0
      · subst cw
        rw [if_pos rfl, if_pos (Or.inr (Or.inl (Int.le_refl _)))]
        refine Or.inl ⟨_, _, rfl, ?_, ?_, rt, hn2⟩
        · dsimp only
          rw [if_neg (fun q => ct q.1), ev]
        · dsimp only; rw [if_neg (fun q => ct q.1)]; exact a2
      · rw [if_neg cw]
        by_cases cq : w = t
        · subst cq
          rw [if_pos rfl, if_pos (Or.inl rfl)]
          refine Or.inl ⟨_, _, rfl, ?_, ?_, rt, hn2⟩
          · dsimp only
            rw [if_neg (fun q => ct q.1), ev]
          · dsimp only; rw [if_neg (fun q => ct q.1)]; exact a2
        · rw [if_neg cq, if_neg (by omega)]
          exact Or.inr ⟨_, _, rfl, rfl, hb⟩
set_option maxRecDepth 20000 in
/-- a value that is there only if there is a type for it -/
theorem c_popO {w : Int} (hw : Ty0 w) (hT : RT bt (x :: R)) (hO : ROc bo (x :: R)) (hc : bo.openCount = ((x :: R).length : Int)) (hl : (x :: R).length ≤ 101) (hn : tot (x :: R) ≤ N) (hN : N ≤ 2000) : (∃ y bt' v, popO w x = some y ∧ f_BV_pop (KBV.mk g false) bt bo (rT w) = .ret (KBV.mk g false, bt', v) ∧ RT bt' (y :: R) ∧ tot (y :: R) ≤ N) ∨ (∃ bt' v, popO w x = none ∧ f_BV_pop (KBV.mk g false) bt bo (rT w) = .ret (KBV.mk g true, bt', v) ∧ Hb bt') := by
  unfold popO
  by_cases c : w = 0
  · subst c
    rw [if_pos rfl]
    refine Or.inl ⟨x, bt, 64, rfl, ?_, hT, hn⟩
    unfold f_BV_pop
    rw [if_pos (show rT 0 = 64 from rfl)]
  · rw [if_neg c, show rT w = w from if_neg c]
    rcases c_pop (g := g) hw hT hO hc hl hn hN with ⟨y, bt', e1, e2, e3, e4, e5⟩ | ⟨bt', v, e1, e2, e3⟩
    · rw [e1]; exact Or.inl ⟨y.2, bt', _, rfl, e2, e4, e5⟩
    · rw [e1]; exact Or.inr ⟨bt', v, rfl, e2, e3⟩
set_option maxRecDepth 20000 in
/-- a value comes on top -/
theorem c_push' {t : Int} (ht : t = 0 ∨ t = 127 ∨ t = 126) (hT : RT bt (x :: R)) (hn : tot (x :: R) ≤ N) (hN : N < 2000) : ∃ bt', f_BV_push (KBV.mk g false) bt t = .ret (KBV.mk g false, bt') ∧ RT bt' (((if t = 0 then -1 else t) :: x.1, x.2) :: R) ∧ tot (((if t = 0 then -1 else t) :: x.1, x.2) :: R) ≤ N + 1 := by
  obtain ⟨ty, h⟩ := bt
  obtain ⟨hT1, hT2⟩ := hT
  have hT1 : h = ((tot (x :: R) : Nat) : Int) := hT1
  unfold f_BV_push
  rw [if_neg (show ¬ t = 64 by omega), if_pos (show KBt.height (ty, h) < 2000 by show h < 2000; omega), if_pos (show 0 ≤ KBt.height (ty, h) ∧ KBt.height (ty, h) < 2000 by show 0 ≤ h ∧ h < 2000; omega), if_pos (show R32 (KBt.height (ty, h) + 1) by show R32 (h + 1); omega)]
  have e1 : tot (((if t = 0 then -1 else t) :: x.1, x.2) :: R) = tot (x :: R) + 1 := by rw [tot_cons, tot_cons]; dsimp only; rw [List.length_cons]; omega
  refine ⟨_, rfl, ⟨?_, ?_⟩, by omega⟩
  · show h + 1 = _; rw [e1]; omega
  · have e2 : (KBt.height (ty, h)).toNat = (x.1 ++ flat R).length := by show h.toNat = tot (x :: R); omega
    show ALc (updZ ty (KBt.height (ty, h)).toNat t) ((if t = 0 then -1 else t) :: (x.1 ++ flat R))
    rw [e2]
    refine ⟨?_, ?_, ALc.cg _ (fun k hk => updZ_n (by omega)) hT2⟩
    · rw [updZ_s]; rcases ht with q | q | q <;> subst q <;> rfl
    · rcases ht with q | q | q <;> subst q <;> decide
set_option maxRecDepth 20000 in
theorem c_push {t : Int} (ht : Ty0 t) (hT : RT bt (x :: R)) (hn : tot (x :: R) ≤ N) (hN : N < 2000) : ∃ bt', f_BV_push (KBV.mk g false) bt (rT t) = .ret (KBV.mk g false, bt') ∧ RT bt' (pushA t x :: R) ∧ tot (pushA t x :: R) ≤ N + 1 := by
  unfold pushA
  by_cases c : t = 0
  · subst c
    rw [if_pos rfl]
    refine ⟨bt, ?_, hT, by omega⟩
    unfold f_BV_push
    rw [if_pos (show rT 0 = 64 from rfl)]
  · rw [if_neg c, show rT t = t from if_neg c]
    have := c_push' (g := g) ht hT hn hN
    rw [if_neg c] at this
    exact this
set_option maxRecDepth 20000 in
theorem Cv.push {t : Int} (ht : Ty0 t) (hT : RT bt (x :: R)) (hn : tot (x :: R) ≤ N) (hN : N < 2000) : Cv g R (N + 1) (f_BV_push (KBV.mk g false) bt (rT t)) (some (pushA t x)) := by
  obtain ⟨bt', e, h1, h2⟩ := c_push (g := g) ht hT hn hN
  rw [e]; exact Cv.ret h1 h2
end CVS
