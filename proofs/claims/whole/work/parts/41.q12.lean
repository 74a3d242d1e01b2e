/-! PAIRS THAT FOLLOW EACH OTHER -/
/-- both go on at the same place with what V tells of; or the reference refuses, and the class has failed (D tells of what it has then) -/
def Sm {τ α β : Type} (a L : Int) (f : Nat → Int32) (T : τ → Prop) (D : β → Prop) (F : Out τ α) (G : Out Empty (KSo × β)) (V : Int → α → β → Prop) : Prop :=
  (∃ (q : Int) (x : α) (y : β), F = .ret x ∧ G = .ret (KSo.mk q L false f, y) ∧ a ≤ q ∧ q ≤ L ∧ V q x y) ∨ (∃ (t : τ) (q : Int) (y : β), F = .thr t ∧ T t ∧ G = .ret (KSo.mk q L true f, y) ∧ a ≤ q ∧ q ≤ L ∧ D y)
/-- the class that has failed stays where it is -/
def Dd {β : Type} (a L : Int) (f : Nat → Int32) (D : β → Prop) (G : Out Empty (KSo × β)) : Prop := ∃ y, G = .ret (KSo.mk a L true f, y) ∧ D y
section SMS
variable {σ τ α β γ δ : Type} {a b L st r : Int} {f : Nat → Int32} {T : τ → Prop} {S : σ → Prop} {F : Out σ α} {G : Out Empty (KSo × β)} {V : Int → α → β → Prop} {K : α → Out τ γ} {E : σ → Out τ γ} {H : KSo × β → Out Empty (KSo × δ)} {W : Int → γ → δ → Prop} {D : β → Prop} {D' : δ → Prop}
set_option maxRecDepth 20000 in
theorem obind_as {A B C : Type} {x : Out Empty A} {k : A → Out Empty B} {l : B → Out Empty C} : obind (obind x k) l = obind x (fun y => obind (k y) l) :=
  Out.cs (P := fun x => obind (obind x k) l = obind x (fun y => obind (k y) l)) x (fun _ => rfl) (fun t => t.elim) rfl
set_option maxRecDepth 20000 in
theorem Dd.bind (h : Dd a L f D G) (hk : ∀ y, D y → Dd a L f D' (H (KSo.mk a L true f, y))) : Dd a L f D' (obind G H) := by
  obtain ⟨y, e, hy⟩ := h; rw [e, obind_ret]; exact hk y hy
set_option maxRecDepth 20000 in
theorem Dd.ret {y : β} (h : D y) : Dd a L f D (.ret (KSo.mk a L true f, y)) := ⟨y, rfl, h⟩
set_option maxRecDepth 20000 in
theorem Sm.low (h : Sm b L f S D F G V) (hab : a ≤ b) : Sm a L f S D F G V := by
  rcases h with ⟨q, x, y, e1, e2, e3, e4, e5⟩ | ⟨t, q, y, e1, e2, e3, e4, e5, e6⟩
  · exact Or.inl ⟨q, x, y, e1, e2, by omega, e4, e5⟩
  · exact Or.inr ⟨t, q, y, e1, e2, e3, by omega, e5, e6⟩
set_option maxRecDepth 20000 in
theorem Sm.mono {V' : Int → α → β → Prop} (h : Sm a L f S D F G V) (hv : ∀ q x y, a ≤ q → q ≤ L → V q x y → V' q x y) : Sm a L f S D F G V' := by
  rcases h with ⟨q, x, y, e1, e2, e3, e4, e5⟩ | h
  · exact Or.inl ⟨q, x, y, e1, e2, e3, e4, hv q x y e3 e4 e5⟩
  · exact Or.inr h
set_option maxRecDepth 20000 in
theorem Sm.bind (h : Sm a L f S D F G V) (hk : ∀ q x y, a ≤ q → q ≤ L → V q x y → Sm q L f T D' (K x) (H (KSo.mk q L false f, y)) W) (he : ∀ t, S t → ∃ t', E t = .thr t' ∧ T t') (hd : ∀ q y, a ≤ q → q ≤ L → D y → Dd q L f D' (H (KSo.mk q L true f, y))) : Sm a L f T D' (obind2 F K E) (obind G H) W := by
  rcases h with ⟨q, x, y, e1, e2, e3, e4, e5⟩ | ⟨t, q, y, e1, e2, e3, e4, e5, e6⟩
  · rw [e1, e2, obind2_ret, obind_ret]; exact (hk q x y e3 e4 e5).low e3
  · obtain ⟨t', k1, k2⟩ := he t e2
    obtain ⟨y', k3, k4⟩ := hd q y e4 e5 e6
    rw [e1, e3, obind2_thr, obind_ret, k1]; exact Or.inr ⟨t', q, y', rfl, k2, k3, e4, e5, k4⟩
set_option maxRecDepth 20000 in
theorem PrR.bind {P : Out (KRf × KMc) (KRf × KMc × α)} {Q : Out Empty (KSo × β)} {V0 : α → β → Prop} {K : KRf × KMc × α → Out τ γ} {E : KRf × KMc → Out τ γ} (h : PrR st a L f r P Q V0 D) (hs : 0 ≤ st) (hk : ∀ q b v, a + st ≤ q → q ≤ L → V0 b v → Sm q L f T D' (K (r, KMc.mk q L, b)) (H (KSo.mk q L false f, v)) W) (he : ∀ c, ∃ t', E (1, c) = .thr t' ∧ T t') (hd : ∀ q v, a ≤ q → q ≤ L → D v → Dd q L f D' (H (KSo.mk q L true f, v))) : Sm a L f T D' (obind2 P K E) (obind Q H) W := by
  rcases h with ⟨q, b, v, e1, e2, e3, e4, e5⟩ | ⟨c, q, v, e1, e2, e3, e4, e5⟩
  · rw [e1, e2, obind2_ret, obind_ret]; exact (hk q b v e3 e4 e5).low (by omega)
  · obtain ⟨t', k1, k2⟩ := he c
    obtain ⟨y', k3, k4⟩ := hd q v e3 e4 e5
    rw [e1, e2, obind2_thr, obind_ret, k1]; exact Or.inr ⟨t', q, y', rfl, k2, k3, e3, e4, k4⟩
set_option maxRecDepth 20000 in
/-- as PrR.bind, and what the reference has read is told too -/
theorem PrR.bindE {P : Out (KRf × KMc) (KRf × KMc × α)} {Q : Out Empty (KSo × β)} {V0 : α → β → Prop} {K : KRf × KMc × α → Out τ γ} {E : KRf × KMc → Out τ γ} (h : PrR st a L f r P Q V0 D) (hs : 0 ≤ st) (hk : ∀ q b v, a + st ≤ q → q ≤ L → V0 b v → P = .ret (r, KMc.mk q L, b) → Sm q L f T D' (K (r, KMc.mk q L, b)) (H (KSo.mk q L false f, v)) W) (he : ∀ c, ∃ t', E (1, c) = .thr t' ∧ T t') (hd : ∀ q v, a ≤ q → q ≤ L → D v → Dd q L f D' (H (KSo.mk q L true f, v))) : Sm a L f T D' (obind2 P K E) (obind Q H) W := by
  rcases h with ⟨q, b, v, e1, e2, e3, e4, e5⟩ | ⟨c, q, v, e1, e2, e3, e4, e5⟩
  · have := (hk q b v e3 e4 e5 e1).low (a := a) (by omega)
    rw [e1, e2, obind2_ret, obind_ret]; exact this
  · obtain ⟨t', k1, k2⟩ := he c
    obtain ⟨y', k3, k4⟩ := hd q v e3 e4 e5
    rw [e1, e2, obind2_thr, obind_ret, k1]; exact Or.inr ⟨t', q, y', rfl, k2, k3, e3, e4, k4⟩
set_option maxRecDepth 20000 in
theorem Sm.ret {A B : Type} {D : B → Prop} {x : A} {y : B} {V : Int → A → B → Prop} (h1 : a ≤ L) (hv : V a x y) : Sm a L f T D (.ret x) (.ret (KSo.mk a L false f, y)) V := Or.inl ⟨a, x, y, rfl, rfl, by omega, h1, hv⟩
set_option maxRecDepth 20000 in
theorem Sm.thr {A B : Type} {D : B → Prop} {t : τ} {G : Out Empty (KSo × B)} {V : Int → A → B → Prop} (h1 : a ≤ L) (ht : T t) (hg : Dd a L f D G) : Sm a L f T D (.thr t) G V := by
  obtain ⟨y, e, hy⟩ := hg
  exact Or.inr ⟨t, a, y, rfl, ht, e, by omega, h1, hy⟩
set_option maxRecDepth 20000 in
theorem Sm.req {n c0 : Int} {A B : Type} {D : B → Prop} {K : KRf × KMc × Int → Out τ A} {E : KRf × KMc → Out τ A} {H : KSo → Out Empty (KSo × B)} {W : Int → A → B → Prop} (h0 : 0 ≤ a) (h1 : a ≤ L) (h3 : L ≤ 2000)
    (hk : a + 1 ≤ L → Sm (a + 1) L f T D (K (r, KMc.mk (a + 1) L, c0)) (H (KSo.mk (a + 1) L false f)) W) (hn : ∀ c, c ≠ c0 → ∃ t', K (r, KMc.mk (a + 1) L, c) = .thr t' ∧ T t') (he : ∀ c, ∃ t', E (1, c) = .thr t' ∧ T t') (hd : ∀ q, a ≤ q → q ≤ L → Dd q L f D (H (KSo.mk q L true f))) : Sm a L f T D (obind2 (f_Mo_one r (KMc.mk a L) (KMt.mk f n)) K E) (obind (f_So_require (KSo.mk a L false f) c0) H) W := by
  by_cases h : a < L
  · rw [mo_one h0 h h3, so_req h0 h h3, obind2_ret]
    generalize by8 (f a.toNat) = b
    by_cases hb : b = c0
    · rw [if_pos hb, obind_ret, hb]; exact (hk (by omega)).low (by omega)
    · obtain ⟨t', k1, k2⟩ := hn b hb
      obtain ⟨y', k3, k4⟩ := hd (a + 1) (by omega) (by omega)
      rw [if_neg hb, obind_ret, k1]; exact Or.inr ⟨t', a + 1, y', rfl, k2, k3, by omega, by omega, k4⟩
  · obtain ⟨t', k1, k2⟩ := he (KMc.mk a L)
    obtain ⟨y', k3, k4⟩ := hd a (by omega) (by omega)
    rw [mo_oneE (by omega), so_reqE (Or.inr (by omega)), obind2_thr, obind_ret, k1]
    exact Or.inr ⟨t', a, y', rfl, k2, k3, by omega, h1, k4⟩
set_option maxRecDepth 20000 in
theorem Dd.req {c0 : Int} {B : Type} {D : B → Prop} {H : KSo → Out Empty (KSo × B)} (h : Dd a L f D (H (KSo.mk a L true f))) : Dd a L f D (obind (f_So_require (KSo.mk a L true f) c0) H) := by
  rw [so_reqE (Or.inl rfl), obind_ret]; exact h
set_option maxRecDepth 20000 in
theorem Dd.oct : Dd a L f (fun v => v = 0) (f_So_octet (KSo.mk a L true f)) := ⟨0, so_octE (Or.inl rfl), rfl⟩
set_option maxRecDepth 20000 in
theorem Dd.vt : Dd a L f (fun _ => True) (f_So_valueType (KSo.mk a L true f)) := let ⟨v, e⟩ := so_vtD; ⟨v, e, trivial⟩
set_option maxRecDepth 20000 in
theorem Dd.flag : Dd a L f (fun v => v = false) (f_So_flag (KSo.mk a L true f)) := ⟨false, so_flagE (Or.inl rfl), rfl⟩
set_option maxRecDepth 20000 in
theorem Dd.uns {fu : Nat} {most : Int64} (hfu : 0 < fu) : Dd a L f (fun v => v = 0) (f_So_unsigned fu (KSo.mk a L true f) most) := ⟨0, so_unsD hfu, rfl⟩
end SMS
set_option maxRecDepth 20000 in
theorem jp_ite {α β : Type} {c : Prop} [Decidable c] {K : α → β} {x y : α} : jp K (fun k => if c then k x else k y) = K (if c then x else y) := by
  unfold jp
  by_cases h : c
  · simp only [if_pos h]
  · simp only [if_neg h]
set_option maxRecDepth 20000 in
theorem rd_ite {τ α : Type} {c : Prop} [Decidable c] {r : Int} {K E : KRf → Out τ α} : obind2 (f_Mo_read r (if c then true else false)) K E = if c then K r else E 1 := by
  by_cases h : c
  · simp only [if_pos h, mo_read, obind2_ret]
  · simp only [if_neg h, mo_readE, obind2_thr]
set_option maxRecDepth 20000 in
theorem rd_ite' {τ α : Type} {c : Prop} [Decidable c] {r : Int} {K E : KRf → Out τ α} : obind2 (f_Mo_read r (if c then false else true)) K E = if c then E 1 else K r := by
  by_cases h : c
  · simp only [if_pos h, mo_readE, obind2_thr]
  · simp only [if_neg h, mo_read, obind2_ret]
set_option maxRecDepth 20000 in
theorem dec_ite {c : Prop} [Decidable c] : (if c then true else false) = decide c := by
  by_cases h : c
  · rw [if_pos h, decide_eq_true h]
  · rw [if_neg h, decide_eq_false h]
set_option maxRecDepth 20000 in
theorem so_failM {a L : Int} {b : Bool} {f : Nat → Int32} : f_So_fail (KSo.mk a L b f) = .ret (KSo.mk a L true f) := rfl
section SGL
variable {fu : Nat} {f : Nat → Int32} {a L n r : Int} {zk : KMk} {m1 : KM1} {mp : KMp} {z3 : KM3} {zj : KMj} {zl : KMl} {z5 : KM5} {z6 : KM6} {z7 : KM7} {ze : KMe}
set_option maxRecDepth 20000 in
theorem sm_glob (hfu : 30 < fu) (h0 : 0 ≤ a) (h1 : a ≤ L) (hL : L ≤ 2000) {t : Nat} (ht : t < 20) {G T : Int} {mt mk gt it : Nat → Int} {mc gc : Nat → Bool} {ms iv : Nat → Int64} : Sm a L f (fun t => t.1 = 1) (fun y => y.globalCount = T) (f_Mo_globalOf fu r (KMc.mk a L) (KMt.mk f n) (KM6.mk G mt mk mc ms) t) (obind (f_So_valueType (KSo.mk a L false f)) (fun x => obind (f_So_flag x.1) (fun y => f_Rd_readInitialValue fu y.1 (KW6.mk T (updZ gt t x.2) (updB gc t y.2) it iv) t)))
    (fun q x y => ∃ ty k b v, x = (r, KMc.mk q L, KM6.mk G (updZ mt t ty) (updZ mk t k) (updB mc t b) (vp_updL ms t v)) ∧ y = KW6.mk T (updZ gt t ty) (updB gc t b) (updZ it t k) (vp_updL iv t v) ∧ (ty = 127 ∨ ty = 126) ∧ (k = 127 ∨ k = 126) ∧ (k = 127 → R32 v.toInt)) := by
  have hc : (0 : Int) ≤ t ∧ (t : Int) < 20 := by omega
  unfold f_Mo_globalOf
  simp only [jp_ite]
  simp only [jp, rd_ite, rd_ite', mo_read, mo_readE, obind2_ret, obind2_thr, if_pos hc, Int.toNat_natCast]
  simp only [dec_ite]
  refine PrR.bind (pr_vt h0 h1 hL) (by decide) ?_ (fun c => ⟨_, rfl, rfl⟩) ?_
  · rintro q ty v h2 h3 ⟨rfl, hty⟩
    dsimp only
    by_cases ha : q < L
    · rw [mo_one (by omega) ha hL, so_flag (by omega) ha hL, obind2_ret]
      generalize by8 (f q.toNat) = b
      dsimp only
      by_cases hb : b ≤ 1
      · rw [if_neg (show ¬ 1 < b by omega), if_pos hb, obind_ret]
        dsimp only
        refine Sm.low (b := q + 1) ?_ (by omega)
        unfold f_Rd_readInitialValue
        simp only [jp, if_pos hc, Int.toNat_natCast]
        refine PrR.bind (pr_one (by omega) (by omega) hL) (by decide) ?_ (fun c => ⟨_, rfl, rfl⟩) ?_
        · rintro q2 op v h4 h5 ⟨rfl, h6, h7⟩
          dsimp only
          by_cases c1 : op = 65
          · simp only [if_pos c1]
            refine PrR.bind (pr_sg (Or.inl rfl) (by omega) (by omega) (by omega) hL) (by decide) ?_ (fun c => ⟨_, rfl, rfl⟩) ?_
            · rintro q3 w w' h8 h9 ⟨rfl, h10⟩
              dsimp only
              refine Sm.req (by omega) (by omega) hL (fun h => ?_) (fun c h => ⟨_, if_neg h, rfl⟩) (fun c => ⟨_, rfl, rfl⟩) (fun q _ _ => Dd.ret rfl)
              dsimp only
              rw [if_pos rfl]
              exact Sm.ret h ⟨ty, 127, _, w, rfl, rfl, hty, Or.inl rfl, fun _ => h10 rfl⟩
            · intro q3 w _ _ _
              exact Dd.req (Dd.ret rfl)
          · by_cases c2 : op = 66
            · simp only [if_neg c1, if_pos c2]
              refine PrR.bind (pr_sg (Or.inr rfl) (by omega) (by omega) (by omega) hL) (by decide) ?_ (fun c => ⟨_, rfl, rfl⟩) ?_
              · rintro q3 w w' h8 h9 ⟨rfl, h10⟩
                dsimp only
                refine Sm.req (by omega) (by omega) hL (fun h => ?_) (fun c h => ⟨_, if_neg h, rfl⟩) (fun c => ⟨_, rfl, rfl⟩) (fun q _ _ => Dd.ret rfl)
                dsimp only
                rw [if_pos rfl]
                exact Sm.ret h ⟨ty, 126, _, w, rfl, rfl, hty, Or.inr rfl, fun h => absurd h (by decide)⟩
              · intro q3 w _ _ _
                exact Dd.req (Dd.ret rfl)
            · simp only [if_neg c1, if_neg c2, so_failM, obind_ret]
              exact Sm.thr h5 rfl (Dd.req (Dd.ret rfl))
        · rintro q2 v h4 h5 rfl
          dsimp only
          rw [if_neg (by decide), if_neg (by decide), so_failM, obind_ret]
          exact Dd.req (Dd.ret rfl)
      · rw [if_pos (show 1 < b by omega), if_neg hb, obind_ret]
        refine Sm.low (b := q + 1) ?_ (by omega)
        exact Sm.thr (by omega) rfl ⟨_, iv_D, rfl⟩
    · rw [mo_oneE (by omega), so_flagE (Or.inr (by omega)), obind2_thr, obind_ret]
      exact Sm.thr h3 rfl ⟨_, iv_D, rfl⟩
  · intro q v h2 h3 _
    exact Dd.flag.bind fun y _ => ⟨_, iv_D, rfl⟩
/-- the globals that class and reference have read -/
def GRel (T : Nat) (w : KW6) (m : KM6) : Prop := ∀ k, k < T → w.globalTypes k = m.globalTypes k ∧ w.globalsChange k = m.changes k ∧ w.initialTypes k = m.globalKinds k ∧ w.initialValues k = m.starts k ∧ (m.globalTypes k = 127 ∨ m.globalTypes k = 126) ∧ (m.globalKinds k = 127 ∨ m.globalKinds k = 126) ∧ (m.globalKinds k = 127 → R32 (m.starts k).toInt)
set_option maxRecDepth 20000 in
theorem updB_s (f : Nat → Bool) (k : Nat) (x : Bool) : updB f k x k = x := if_pos rfl
set_option maxRecDepth 20000 in
theorem updB_n {f : Nat → Bool} {k j : Nat} {x : Bool} (h : j ≠ k) : updB f k x j = f j := if_neg h
set_option maxRecDepth 20000 in
theorem GRel.add {t : Nat} {T G ty k : Int} {b : Bool} {v : Int64} {mt mk gt it : Nat → Int} {mc gc : Nat → Bool} {ms iv : Nat → Int64} (h : GRel t (KW6.mk T gt gc it iv) (KM6.mk G mt mk mc ms)) (hty : ty = 127 ∨ ty = 126) (hk : k = 127 ∨ k = 126) (hv : k = 127 → R32 v.toInt) : GRel (t + 1) (KW6.mk T (updZ gt t ty) (updB gc t b) (updZ it t k) (vp_updL iv t v)) (KM6.mk G (updZ mt t ty) (updZ mk t k) (updB mc t b) (vp_updL ms t v)) := by
  intro j hj
  by_cases c : j = t
  · subst c
    show updZ _ _ _ _ = updZ _ _ _ _ ∧ updB _ _ _ _ = updB _ _ _ _ ∧ updZ _ _ _ _ = updZ _ _ _ _ ∧ vp_updL _ _ _ _ = vp_updL _ _ _ _ ∧ (updZ _ _ _ _ = _ ∨ updZ _ _ _ _ = _) ∧ (updZ _ _ _ _ = _ ∨ updZ _ _ _ _ = _) ∧ (updZ _ _ _ _ = _ → R32 (vp_updL _ _ _ _).toInt)
    simp only [updZ_s, updB_s, updL_s]
    exact ⟨trivial, trivial, trivial, trivial, hty, hk, hv⟩
  · show updZ _ _ _ _ = updZ _ _ _ _ ∧ updB _ _ _ _ = updB _ _ _ _ ∧ updZ _ _ _ _ = updZ _ _ _ _ ∧ vp_updL _ _ _ _ = vp_updL _ _ _ _ ∧ (updZ _ _ _ _ = _ ∨ updZ _ _ _ _ = _) ∧ (updZ _ _ _ _ = _ ∨ updZ _ _ _ _ = _) ∧ (updZ _ _ _ _ = _ → R32 (vp_updL _ _ _ _).toInt)
    simp only [updZ_n c, updB_n c, updL_n c]
    exact h j (by omega)
set_option maxRecDepth 20000 in
theorem mgl_end {r : Int} {c : KMc} {tp : KMt} {w : KM6} {t : Int} {n1 : Nat} (h : w.globals ≤ t) : L355_Mo_sectionOf fu zk tp m1 mp z3 zj zl z5 z7 ze (n1 + 1) r c w t = .ret (r, c, w, t) := by
  rw [L355_Mo_sectionOf.eq_2, if_pos h]
set_option maxRecDepth 20000 in
theorem mgl_step {r : Int} {c : KMc} {tp : KMt} {w : KM6} {t : Nat} {n1 : Nat} (h : ¬ w.globals ≤ t) (ht : t < 20) : L355_Mo_sectionOf fu zk tp m1 mp z3 zj zl z5 z7 ze (n1 + 1) r c w t = obind2 (f_Mo_globalOf fu r c tp w t) (fun x => L355_Mo_sectionOf fu zk tp m1 mp z3 zj zl z5 z7 ze n1 x.1 x.2.1 x.2.2 ((t + 1 : Nat) : Int)) (fun x => .thr (x.1, x.2.1, zk, m1, mp, z3, zj, zl, z5, x.2.2, z7, ze)) := by
  have hr : R32 ((t : Int) + 1) := by omega
  rw [L355_Mo_sectionOf.eq_2, if_neg h]
  simp only [if_pos hr]
  rfl
set_option maxRecDepth 20000 in
theorem lp_gl (hfu : 30 < fu) (hL : L ≤ 2000) {T : Nat} (hT : T ≤ 20) : ∀ (j t : Nat) (a : Int) (gt it mt mk : Nat → Int) (gc mc : Nat → Bool) (iv ms : Nat → Int64) (n1 n2 : Nat), t + j = T → 0 ≤ a → a ≤ L → j < n1 → j < n2 → GRel t (KW6.mk T gt gc it iv) (KM6.mk T mt mk mc ms) →
    Sm a L f (fun t => t.1 = 1) (fun _ => True) (L355_Mo_sectionOf fu zk (KMt.mk f n) m1 mp z3 zj zl z5 z7 ze n1 r (KMc.mk a L) (KM6.mk T mt mk mc ms) t) (L20_Rd_readGlobals fu n2 (KSo.mk a L false f) (KW6.mk T gt gc it iv) t) (fun q x y => ∃ w m, x = (r, KMc.mk q L, m, (T : Int)) ∧ y = (w, (T : Int)) ∧ w.globalCount = T ∧ m.globals = T ∧ GRel T w m) := by
  intro j
  induction j with
  | zero =>
    intro t a gt it mt mk gc mc iv ms n1 n2 hk h0 h1 hn1 hn2 hR
    obtain ⟨n1, rfl⟩ : ∃ q, n1 = q + 1 := ⟨n1 - 1, by omega⟩
    obtain ⟨n2, rfl⟩ : ∃ q, n2 = q + 1 := ⟨n2 - 1, by omega⟩
    obtain rfl : t = T := by omega
    rw [mgl_end (by show (t : Int) ≤ t; omega), gl_end (by omega)]
    exact Sm.ret h1 ⟨_, _, rfl, rfl, rfl, rfl, hR⟩
  | succ j ih =>
    intro t a gt it mt mk gc mc iv ms n1 n2 hk h0 h1 hn1 hn2 hR
    obtain ⟨n1, rfl⟩ : ∃ q, n1 = q + 1 := ⟨n1 - 1, by omega⟩
    obtain ⟨n2, rfl⟩ : ∃ q, n2 = q + 1 := ⟨n2 - 1, by omega⟩
    rw [mgl_step (by show ¬ (T : Int) ≤ t; omega) (by omega), gl_step (by omega) (by omega)]
    have as : ∀ (A : Out Empty (KSo × Int)) (B : KSo × Int → Out Empty (KSo × Bool)) (C : KSo × Int → KSo × Bool → Out Empty (KSo × KW6)) (D : KSo × KW6 → Out Empty (KSo × KW6 × Int)), obind A (fun x => obind (B x) (fun y => obind (C x y) D)) = obind (obind A (fun x => obind (B x) (fun y => C x y))) D := by
      intro A B C D
      simp only [obind_as]
    rw [as _ (fun x => f_So_flag x.1) (fun x y => f_Rd_readInitialValue fu y.1 (KW6.mk T (updZ gt t x.2) (updB gc t y.2) it iv) t) (fun u => L20_Rd_readGlobals fu n2 u.1 u.2 ((t + 1 : Nat) : Int))]
    refine Sm.bind (sm_glob hfu h0 h1 hL (by omega)) ?_ (fun t ht => ⟨_, rfl, ht⟩) ?_
    · rintro q x y h2 h3 ⟨ty, k, b, v, rfl, rfl, h4, h5, h6⟩
      exact ih (t + 1) q _ _ _ _ _ _ _ _ n1 n2 (by omega) (by omega) h3 (by omega) (by omega) (hR.add h4 h5 h6)
    · rintro q ⟨T', gt', gc', it', iv'⟩ h2 h3 (rfl : T' = T)
      obtain ⟨gt2, gc2, e⟩ := gl_dead (fu := fu) (f := f) (a := q) (L := L) hT j (t + 1) gt' it' gc' iv' n2 (by omega) (by omega)
      exact ⟨_, e, trivial⟩
end SGL

/-! WHAT STANDS ON THE TAPE: a number that was read under one limit is read under every other behind it -/
section STAB
variable {f : Nat → Int32} {L L' q : Int} {w : Int64}
set_option maxRecDepth 20000 in
theorem cnt_stab (hL : L ≤ 2000) (hL' : L' ≤ 2000) (hq : q ≤ L') : ∀ (j k : Nat) (a : Int) (v : Int64) (n1 n1' fu fu' : Nat) (r r' r2 n n' L2 : Int), j + k = 5 → 0 ≤ a → j < n1 → j < n1' → L4_Mo_count fu (KMt.mk f n) n1 r (KMc.mk a L) v k = .ret (r2, KMc.mk q L2, w) → a < q ∧ L4_Mo_count fu' (KMt.mk f n') n1' r' (KMc.mk a L') v k = .ret (r', KMc.mk q L', w) := by
  intro j
  induction j with
  | zero =>
    intro k a v n1 n1' fu fu' r r' r2 n n' L2 hk h0 h1 h2 e
    obtain ⟨n1, rfl⟩ : ∃ m, n1 = m + 1 := ⟨n1 - 1, by omega⟩
    rw [cnt_end (by omega)] at e; exact (ret_thr e.symm).elim
  | succ j ih =>
    intro k a v n1 n1' fu fu' r r' r2 n n' L2 hk h0 h1 h2 e
    obtain ⟨n1, rfl⟩ : ∃ m, n1 = m + 1 := ⟨n1 - 1, by omega⟩
    obtain ⟨n1', rfl⟩ : ∃ m, n1' = m + 1 := ⟨n1' - 1, by omega⟩
    by_cases ha : a < L
    · rw [cnt_step h0 ha hL (by omega) (by omega)] at e
      by_cases c1 : (k : Int) = 4 ∧ 16 ≤ by8 (f a.toNat)
      · rw [if_pos c1] at e; exact (ret_thr e.symm).elim
      · rw [if_neg c1] at e
        by_cases c2 : 128 ≤ by8 (f a.toNat)
        · rw [if_pos c2] at e
          obtain ⟨e1, e2⟩ := ih (k + 1) (a + 1) _ n1 n1' fu fu' r r' r2 n n' L2 (by omega) (by omega) (by omega) (by omega) e
          refine ⟨by omega, ?_⟩
          rw [cnt_step h0 (by omega) hL' (by omega) (by omega), if_neg c1, if_pos c2]; exact e2
        · rw [if_neg c2] at e
          have e' := ret_inj e
          have e3 := (Prod.mk.inj (Prod.mk.inj (Prod.mk.inj e').2).1).1
          have e4 := (Prod.mk.inj (Prod.mk.inj e').2).2
          subst e3; subst e4
          refine ⟨by omega, ?_⟩
          rw [cnt_step h0 (by omega) hL' (by omega) (by omega), if_neg c1, if_neg c2]
    · rw [cnt_out (by omega) (by omega)] at e; exact (ret_thr e.symm).elim
set_option maxRecDepth 20000 in
theorem sg_stab (hL : L ≤ 2000) (hL' : L' ≤ 2000) (hq : q ≤ L') {bits : Int} (hb : bits = 32 ∨ bits = 64) : ∀ (j k : Nat) (a : Int) (v : Int64) (n1 n1' fu fu' : Nat) (r r' r2 n n' L2 : Int), (j + k : Int) = sgK bits → 0 ≤ a → j < n1 → j < n1' → L14_Mo_signed fu (KMt.mk f n) bits n1 r (KMc.mk a L) v k = .ret (r2, KMc.mk q L2, w) → a < q ∧ L14_Mo_signed fu' (KMt.mk f n') bits n1' r' (KMc.mk a L') v k = .ret (r', KMc.mk q L', w) := by
  have hK : sgK bits = 5 ∨ sgK bits = 10 := by rcases sg_bK hb with ⟨_, h⟩ | ⟨_, h⟩ <;> omega
  intro j
  induction j with
  | zero =>
    intro k a v n1 n1' fu fu' r r' r2 n n' L2 hk h0 h1 h2 e
    obtain ⟨n1, rfl⟩ : ∃ m, n1 = m + 1 := ⟨n1 - 1, by omega⟩
    rw [ms_end (by omega)] at e; exact (ret_thr e.symm).elim
  | succ j ih =>
    intro k a v n1 n1' fu fu' r r' r2 n n' L2 hk h0 h1 h2 e
    obtain ⟨n1, rfl⟩ : ∃ m, n1 = m + 1 := ⟨n1 - 1, by omega⟩
    obtain ⟨n1', rfl⟩ : ∃ m, n1' = m + 1 := ⟨n1' - 1, by omega⟩
    by_cases ha : a < L
    · rw [ms_step h0 ha hL (by omega) (by omega) (by omega) hb] at e
      by_cases c1 : (k : Int) = sgK bits - 1 ∧ ¬ sgG bits k (by8 (f a.toNat))
      · rw [if_pos c1] at e; exact (ret_thr e.symm).elim
      · rw [if_neg c1] at e
        by_cases c2 : 128 ≤ by8 (f a.toNat)
        · rw [if_pos c2] at e
          obtain ⟨e1, e2⟩ := ih (k + 1) (a + 1) _ n1 n1' fu fu' r r' r2 n n' L2 (by omega) (by omega) (by omega) (by omega) e
          refine ⟨by omega, ?_⟩
          rw [ms_step h0 (by omega) hL' (by omega) (by omega) (by omega) hb, if_neg c1, if_pos c2]; exact e2
        · rw [if_neg c2] at e
          have e' := ret_inj e
          have e3 := (Prod.mk.inj (Prod.mk.inj (Prod.mk.inj e').2).1).1
          have e4 := (Prod.mk.inj (Prod.mk.inj e').2).2
          subst e3; subst e4
          refine ⟨by omega, ?_⟩
          rw [ms_step h0 (by omega) hL' (by omega) (by omega) (by omega) hb, if_neg c1, if_neg c2]
    · rw [ms_out (by omega) (by omega)] at e; exact (ret_thr e.symm).elim
end STAB
/-- from a to q stands the number w -/
def Cnt (f : Nat → Int32) (a q : Int) (w : Int64) : Prop := 0 ≤ a ∧ a < q ∧ ∀ (fu : Nat) (r n L : Int), 5 < fu → q ≤ L → L ≤ 2000 → f_Mo_count fu r (KMc.mk a L) (KMt.mk f n) = .ret (r, KMc.mk q L, w)
def Few (most : Int64) (f : Nat → Int32) (a q b : Int) : Prop := 0 ≤ a ∧ a < q ∧ ∀ (fu : Nat) (r n L : Int), 5 < fu → q ≤ L → L ≤ 2000 → f_Mo_few2 fu r (KMc.mk a L) (KMt.mk f n) most = .ret (r, KMc.mk q L, b)
def Idx (f : Nat → Int32) (a q b : Int) : Prop := 0 ≤ a ∧ a < q ∧ ∀ (fu : Nat) (r n L : Int), 5 < fu → q ≤ L → L ≤ 2000 → f_Mo_index fu r (KMc.mk a L) (KMt.mk f n) = .ret (r, KMc.mk q L, b)
def Sgn (bits : Int) (f : Nat → Int32) (a q : Int) (w : Int64) : Prop := 0 ≤ a ∧ a < q ∧ ∀ (fu : Nat) (r n L : Int), 10 < fu → q ≤ L → L ≤ 2000 → f_Mo_signed fu r (KMc.mk a L) (KMt.mk f n) bits = .ret (r, KMc.mk q L, w)
section STB
variable {f : Nat → Int32} {fu : Nat} {a L q r n r2 L2 : Int} {w : Int64}
set_option maxRecDepth 20000 in
theorem cnt_of (hfu : 5 < fu) (h0 : 0 ≤ a) (hL : L ≤ 2000) (e : f_Mo_count fu r (KMc.mk a L) (KMt.mk f n) = .ret (r2, KMc.mk q L2, w)) (hq : q ≤ 2000) : Cnt f a q w := by
  refine ⟨h0, ?_, fun fu' r' n' L' h1 h2 h3 => ?_⟩
  · exact (cnt_stab (L' := 2000) hL (by omega) hq 5 0 a 0 fu fu fu fu r r r2 n n L2 rfl h0 (by omega) (by omega) e).1
  · exact (cnt_stab hL h3 h2 5 0 a 0 fu fu' fu fu' r r' r2 n n' L2 rfl h0 (by omega) (by omega) e).2
set_option maxRecDepth 20000 in
theorem few_eq {most : Int64} {c : KMc} {t : KMt} : f_Mo_few2 fu r c t most = obind2 (f_Mo_count fu r c t) (fun x => if most.toInt < x.2.2.toInt then .thr (1, x.2.1) else .ret (x.1, x.2.1, x.2.2.toInt32.toInt)) (fun x => .thr x) := by
  unfold f_Mo_few2
  congr 1
set_option maxRecDepth 20000 in
theorem few_of {most : Int64} {b : Int} (hfu : 5 < fu) (h0 : 0 ≤ a) (hL : L ≤ 2000) (e : f_Mo_few2 fu r (KMc.mk a L) (KMt.mk f n) most = .ret (r2, KMc.mk q L2, b)) (hq : q ≤ 2000) : Few most f a q b := by
  rw [few_eq] at e
  rcases ob2 ret_nb e with ⟨⟨x1, ⟨x2, x3⟩, x4⟩, k1, k2⟩ | ⟨t, k1, k2⟩
  · dsimp only at k2
    by_cases h : most.toInt < x4.toInt
    · rw [if_pos h] at k2; exact (ret_thr k2.symm).elim
    · rw [if_neg h] at k2
      have e' := ret_inj k2
      have e3 := (Prod.mk.inj (Prod.mk.inj (Prod.mk.inj e').2).1).1
      have e4 := (Prod.mk.inj (Prod.mk.inj e').2).2
      subst e3; subst e4
      obtain ⟨_, c2, c3⟩ := cnt_of hfu h0 hL k1 hq
      refine ⟨h0, c2, fun fu' r' n' L' h1 h2 h3 => ?_⟩
      rw [few_eq, c3 fu' r' n' L' h1 h2 h3, obind2_ret]
      exact if_neg h
  · exact (ret_thr k2.symm).elim
set_option maxRecDepth 20000 in
theorem idx_eq {c : KMc} {t : KMt} : f_Mo_index fu r c t = f_Mo_few2 fu r c t 2147483647 := by
  unfold f_Mo_index
  exact Out.cs (P := fun o => obind2 o (fun (x_1 : KRf × KMc × Int) => Out.ret (x_1.1, x_1.2.1, x_1.2.2)) (fun (x_1 : KRf × KMc) => Out.thr (x_1.1, x_1.2)) = o) _ (fun _ => rfl) (fun _ => rfl) rfl
set_option maxRecDepth 20000 in
theorem idx_of {b : Int} (hfu : 5 < fu) (h0 : 0 ≤ a) (hL : L ≤ 2000) (e : f_Mo_index fu r (KMc.mk a L) (KMt.mk f n) = .ret (r2, KMc.mk q L2, b)) (hq : q ≤ 2000) : Idx f a q b := by
  rw [idx_eq] at e
  obtain ⟨_, c2, c3⟩ := few_of hfu h0 hL e hq
  exact ⟨h0, c2, fun fu' r' n' L' h1 h2 h3 => by rw [idx_eq]; exact c3 fu' r' n' L' h1 h2 h3⟩
set_option maxRecDepth 20000 in
theorem sg_of {bits : Int} (hb : bits = 32 ∨ bits = 64) (hfu : 10 < fu) (h0 : 0 ≤ a) (hL : L ≤ 2000) (e : f_Mo_signed fu r (KMc.mk a L) (KMt.mk f n) bits = .ret (r2, KMc.mk q L2, w)) (hq : q ≤ 2000) : Sgn bits f a q w := by
  have hR : R32 (bits + 6) := by omega
  have hK : ∃ K : Nat, (K : Int) = sgK bits ∧ K ≤ 10 := by
    rcases sg_bK hb with ⟨_, h⟩ | ⟨_, h⟩
    · exact ⟨5, by omega, by omega⟩
    · exact ⟨10, by omega, by omega⟩
  obtain ⟨K, hK, hK2⟩ := hK
  have e0 : ∀ (fu : Nat) (r n L : Int), f_Mo_signed fu r (KMc.mk a L) (KMt.mk f n) bits = L14_Mo_signed fu (KMt.mk f n) bits fu r (KMc.mk a L) 0 0 := by
    intro fu r n L
    unfold f_Mo_signed
    rw [if_pos hR]
  rw [e0] at e
  refine ⟨h0, ?_, fun fu' r' n' L' h1 h2 h3 => ?_⟩
  · exact (sg_stab (L' := 2000) hL (by omega) hq hb K 0 a 0 fu fu fu fu r r r2 n n L2 (by omega) h0 (by omega) (by omega) e).1
  · rw [e0]; exact (sg_stab hL h3 h2 hb K 0 a 0 fu fu' fu fu' r r' r2 n n' L2 (by omega) h0 (by omega) (by omega) e).2
end STB

/-! SECTIONS: the globals, the exports -/
section SGE
variable {fu : Nat} {f : Nat → Int32} {a L n r : Int} {zk : KMk} {m1 : KM1} {mp : KMp} {z3 : KM3} {zj : KMj} {zl : KMl} {z5 : KM5} {z6 : KM6} {z7 : KM7} {ze : KMe}
set_option maxRecDepth 20000 in
theorem gl_secD (hfu : 20 < fu) (w : KW6) : Dd a L f (fun _ => True) (f_Rd_readGlobals fu (KSo.mk a L true f) w) := by
  unfold f_Rd_readGlobals
  refine (Dd.uns (by omega)).bind fun y hy => ?_
  subst hy
  obtain ⟨gt, gc, e⟩ := gl_dead (fu := fu) (f := f) (a := a) (L := L) (T := 0) (by omega) 0 0 w.globalTypes w.initialTypes w.globalsChange w.initialValues fu (by omega) (by omega)
  exact ⟨_, (congrArg (fun o => obind o _) e).trans rfl, trivial⟩
set_option maxRecDepth 20000 in
theorem gl_sec (hfu : 30 < fu) (h0 : 0 ≤ a) (h1 : a ≤ L) (hL : L ≤ 2000) (w : KW6) : Sm a L f (fun t => t.1 = 1) (fun _ => True) (f_Mo_sectionOf fu r (KMc.mk a L) zk (KMt.mk f n) m1 mp z3 zj zl z5 z6 z7 ze 6) (f_Rd_readGlobals fu (KSo.mk a L false f) w) (fun q x y => ∃ (T : Nat) (m : KM6), x = (r, KMc.mk q L, zk, m1, mp, z3, zj, zl, z5, m, z7, ze) ∧ T ≤ 20 ∧ y.globalCount = T ∧ m.globals = T ∧ GRel T y m) := by
  unfold f_Mo_sectionOf f_Rd_readGlobals
  simp only [jp]
  rw [if_neg (show ¬ (6 : Int) = 1 by decide), if_neg (show ¬ (6 : Int) = 3 by decide), if_neg (show ¬ (6 : Int) = 5 by decide), if_pos trivial]
  refine PrR.bind (pr_few (by decide) (by omega) h0 h1 hL) (by decide) ?_ (fun c => ⟨_, rfl, rfl⟩) ?_
  · rintro q N v h2 h3 ⟨k1, k2, k3, k4⟩
    have k4 : N ≤ 20 := k4
    obtain ⟨N, rfl⟩ := Int.eq_ofNat_of_zero_le k3
    dsimp only
    rw [k2]
    refine Sm.bind (lp_gl hfu hL (T := N) (by omega) N 0 q _ _ _ _ _ _ _ _ fu fu (by omega) (by omega) h3 (by omega) (by omega) (fun k hk => absurd hk (by omega))) ?_ (fun t ht => ⟨t, rfl, ht⟩) ?_
    · rintro q2 x y h4 h5 ⟨w', m', rfl, rfl, e1, e2, e3⟩
      exact Sm.ret h5 ⟨N, m', rfl, by omega, e1, e2, e3⟩
    · intro q2 y _ _ _
      exact Dd.ret trivial
  · rintro q v h2 h3 rfl
    dsimp only
    obtain ⟨gt, gc, e⟩ := gl_dead (fu := fu) (f := f) (a := q) (L := L) (T := 0) (by omega) 0 0 w.globalTypes w.initialTypes w.globalsChange w.initialValues fu (by omega) (by omega)
    exact ⟨_, (congrArg (fun o => obind o _) e).trans rfl, trivial⟩
/-- the tape's bytes are bytes -/
def BB (f : Nat → Int32) : Prop := ∀ k, (f k).toInt8.toInt32 = f k
set_option maxRecDepth 20000 in
theorem by8_8 (x : Int32) : (iI (by8 x)).toInt8.toInt32 = x.toInt8.toInt32 := by
  have e : iI (by8 x) = x &&& 255 := (iI_of _).symm
  rw [e]
  congr 1
  apply Int8.toBitVec_inj.mp
  apply BitVec.eq_of_toNat_eq
  rw [Int32.toBitVec_toInt8, Int32.toBitVec_toInt8, BitVec.signExtend_eq_setWidth_of_le _ (by decide), BitVec.signExtend_eq_setWidth_of_le _ (by decide), BitVec.toNat_setWidth, BitVec.toNat_setWidth, Int32.toBitVec_and, BitVec.toNat_and]
  show (x.toBitVec.toNat &&& 255) % 256 = x.toBitVec.toNat % 256
  rw [show (255 : Nat) = 2 ^ 8 - 1 by decide, Nat.and_two_pow_sub_one_eq_mod]
  omega
set_option maxRecDepth 20000 in
theorem updI_s (g : Nat → Int32) (k : Nat) (x : Int32) : upd g k x k = x := if_pos rfl
set_option maxRecDepth 20000 in
theorem updI_n {g : Nat → Int32} {k j : Nat} {x : Int32} (h : j ≠ k) : upd g k x j = g j := if_neg h
set_option maxRecDepth 20000 in
theorem nm_end {x : Nat} (hx : x < 40) {z : KSo} {w : KEx} {k : Int} {n2 : Nat} (h : w.nameLengths x ≤ k) : L52_Rd_readExports fu x (n2 + 1) z w k = .ret (z, w, k) := by
  rw [L52_Rd_readExports.eq_2, if_pos (by omega), if_pos (show w.nameLengths (x : Int).toNat ≤ k from h)]
set_option maxRecDepth 20000 in
theorem nm_step {x k : Nat} (hx : x < 40) (hk : k < 30) {z : KSo} {S : Int} {ks is nl : Nat → Int} {nm : Nat → Int32} {n2 : Nat} (h : ¬ nl x ≤ k) : L52_Rd_readExports fu x (n2 + 1) z (KEx.mk S ks is nl nm) k = obind (f_So_octet z) (fun y => L52_Rd_readExports fu x n2 y.1 (KEx.mk S ks is nl (upd nm (x * 30 + k) ((iI y.2).toInt8.toInt32))) ((k + 1 : Nat) : Int)) := by
  have hc : 0 ≤ (x : Int) * 30 + k ∧ (x : Int) * 30 + k < 1200 := by omega
  rw [L52_Rd_readExports.eq_2, if_pos (by omega), if_neg (show ¬ nl (x : Int).toNat ≤ k from h), if_pos (show R32 ((x : Int) * 30) by omega), if_pos (show R32 ((x : Int) * 30 + k) by omega)]
  simp only [if_pos hc, if_pos (show R32 ((k : Int) + 1) by omega)]
  have e : ((x : Int) * 30 + k).toNat = x * 30 + k := by omega
  rw [e]; rfl
set_option maxRecDepth 20000 in
theorem nm_dead {x : Nat} (hx : x < 40) {N : Nat} (hN : N ≤ 30) {S : Int} {ks is nl : Nat → Int} (hnl : nl x = N) : ∀ (j k : Nat) (a : Int) (nm : Nat → Int32) (n2 : Nat), k + j = N → j < n2 → ∃ nm', L52_Rd_readExports fu x n2 (KSo.mk a L true f) (KEx.mk S ks is nl nm) k = .ret (KSo.mk a L true f, KEx.mk S ks is nl nm', N) := by
  intro j
  induction j with
  | zero =>
    intro k a nm n2 hk hn
    obtain ⟨n2, rfl⟩ : ∃ q, n2 = q + 1 := ⟨n2 - 1, by omega⟩
    exact ⟨nm, (nm_end hx (by show nl x ≤ k; omega)).trans (by rw [show (k : Int) = N by omega])⟩
  | succ j ih =>
    intro k a nm n2 hk hn
    obtain ⟨n2, rfl⟩ : ∃ q, n2 = q + 1 := ⟨n2 - 1, by omega⟩
    rw [nm_step hx (by omega) (by omega), so_octE (Or.inl rfl), obind_ret]
    exact ih (k + 1) a _ n2 (by omega) (by omega)
set_option maxRecDepth 20000 in
theorem nm_loop (hB : BB f) (hL : L ≤ 2000) {x : Nat} (hx : x < 40) {N : Nat} (hN : N ≤ 30) {S : Int} {ks is nl : Nat → Int} (hnl : nl x = N) : ∀ (j k : Nat) (a : Nat) (nm : Nat → Int32) (n2 : Nat), k + j = N → j < n2 → (a : Int) ≤ L →
    (∃ nm', (a + j : Int) ≤ L ∧ L52_Rd_readExports fu x n2 (KSo.mk a L false f) (KEx.mk S ks is nl nm) k = .ret (KSo.mk ((a : Int) + j) L false f, KEx.mk S ks is nl nm', N) ∧ (∀ i, i < j → nm' (x * 30 + k + i) = f (a + i)) ∧ (∀ i, i < x * 30 + k → nm' i = nm i)) ∨
    (∃ nm', L < a + j ∧ L52_Rd_readExports fu x n2 (KSo.mk a L false f) (KEx.mk S ks is nl nm) k = .ret (KSo.mk L L true f, KEx.mk S ks is nl nm', N)) := by
  intro j
  induction j with
  | zero =>
    intro k a nm n2 hk hn ha
    obtain ⟨n2, rfl⟩ : ∃ q, n2 = q + 1 := ⟨n2 - 1, by omega⟩
    refine Or.inl ⟨nm, by omega, (nm_end hx (by show nl x ≤ k; omega)).trans (by rw [show (k : Int) = N by omega]; rw [show (a : Int) + (0 : Nat) = a by omega]), fun i hi => absurd hi (by omega), fun i _ => rfl⟩
  | succ j ih =>
    intro k a nm n2 hk hn ha
    obtain ⟨n2, rfl⟩ : ∃ q, n2 = q + 1 := ⟨n2 - 1, by omega⟩
    rw [nm_step hx (by omega) (by omega)]
    by_cases h : (a : Int) < L
    · rw [so_oct (by omega) h hL, obind_ret]
      dsimp only
      rw [show ((a : Int) + 1) = ((a + 1 : Nat) : Int) by omega]
      rcases ih (k + 1) (a + 1) (upd nm (x * 30 + k) ((iI (by8 (f (a : Int).toNat))).toInt8.toInt32)) n2 (by omega) (by omega) (by omega) with ⟨nm', e1, e2, e3, e4⟩ | ⟨nm', e1, e2⟩
      · refine Or.inl ⟨nm', by omega, e2.trans ?_, ?_, fun i hi => ?_⟩
        · rw [show ((a + 1 : Nat) : Int) + j = (a : Int) + (j + 1 : Nat) by omega]
        · intro i hi
          by_cases c : i = 0
          · subst c
            rw [e4 (x * 30 + k + 0) (by omega)]
            show upd nm (x * 30 + k) _ (x * 30 + k) = f a
            rw [updI_s, by8_8, hB]; rfl
          · obtain ⟨i, rfl⟩ : ∃ i', i = i' + 1 := ⟨i - 1, by omega⟩
            have := e3 i (by omega)
            rw [show x * 30 + k + (i + 1) = x * 30 + (k + 1) + i by omega, this, show a + 1 + i = a + (i + 1) by omega]
        · rw [e4 i (by omega), updI_n (by omega)]
      · exact Or.inr ⟨nm', by omega, e2⟩
    · rw [so_octE (Or.inr (by omega)), obind_ret]
      obtain ⟨nm', e⟩ := nm_dead (fu := fu) (f := f) (L := L) hx hN (S := S) (ks := ks) (is := is) hnl j (k + 1) a (upd nm (x * 30 + k) ((iI 0).toInt8.toInt32)) n2 (by omega) (by omega)
      refine Or.inr ⟨nm', by omega, ?_⟩
      rw [show L = (a : Int) by omega] at e ⊢
      exact e
/-- the exports that class and reference have read -/
def ERel (f : Nat → Int32) (T : Nat) (w : KEx) (m : KM7) : Prop := ∀ e, e < T → w.kinds e = m.exportKinds e ∧ (w.kinds e = 0 ∨ w.kinds e = 2 ∨ w.kinds e = 3) ∧ w.nameLengths e = m.nameLength e ∧ 0 ≤ m.nameLength e ∧ m.nameLength e ≤ 30 ∧ 0 ≤ m.nameAt e ∧ m.nameAt e + m.nameLength e ≤ 2000 ∧ (∀ k : Nat, (k : Int) < m.nameLength e → w.names (e * 30 + k) = f ((m.nameAt e).toNat + k)) ∧ 0 ≤ w.indices e ∧ w.indices e ≤ 2147483647 ∧ m.exportOf e = (iI (w.indices e)).toInt64
set_option maxRecDepth 20000 in
theorem ERel.add {t : Nat} {S E K N A I : Int} {ks is nl : Nat → Int} {nm nm' : Nat → Int32} {ek na ml : Nat → Int} {eo : Nat → Int64} (h : ERel f t (KEx.mk S ks is nl nm) (KM7.mk E ek eo na ml)) (hK : K = 0 ∨ K = 2 ∨ K = 3) (h0 : 0 ≤ N) (h30 : N ≤ 30) (hA : 0 ≤ A) (hA2 : A + N ≤ 2000) (h1 : ∀ k : Nat, (k : Int) < N → nm' (t * 30 + k) = f (A.toNat + k)) (h2 : ∀ i, i < t * 30 → nm' i = nm i) (hI : 0 ≤ I) (hI2 : I ≤ 2147483647) : ERel f (t + 1) (KEx.mk S (updZ ks t K) (updZ is t I) (updZ nl t N) nm') (KM7.mk E (updZ ek t K) (vp_updL eo t ((iI I).toInt64)) (updZ na t A) (updZ ml t N)) := by
  intro j hj
  show updZ _ _ _ _ = updZ _ _ _ _ ∧ (updZ _ _ _ _ = _ ∨ updZ _ _ _ _ = _ ∨ updZ _ _ _ _ = _) ∧ updZ _ _ _ _ = updZ _ _ _ _ ∧ _ ≤ updZ _ _ _ _ ∧ updZ _ _ _ _ ≤ _ ∧ _ ≤ updZ _ _ _ _ ∧ updZ _ _ _ _ + updZ _ _ _ _ ≤ _ ∧ (∀ k : Nat, (k : Int) < updZ _ _ _ _ → _ = f ((updZ _ _ _ _).toNat + k)) ∧ _ ≤ updZ _ _ _ _ ∧ updZ _ _ _ _ ≤ _ ∧ vp_updL _ _ _ _ = (iI (updZ _ _ _ _)).toInt64
  by_cases c : j = t
  · subst c
    simp only [updZ_s, updL_s]
    exact ⟨trivial, hK, trivial, h0, h30, hA, hA2, h1, hI, hI2, trivial⟩
  · simp only [updZ_n c, updL_n c]
    obtain ⟨a1, a2, a3, a4, a5, a6, a7, a8, a9, a10, a11⟩ := h j (by omega)
    refine ⟨a1, a2, a3, a4, a5, a6, a7, fun k hk => ?_, a9, a10, a11⟩
    rw [show (KEx.mk S (updZ ks t K) (updZ is t I) (updZ nl t N) nm').names = nm' from rfl, h2 _ (by have : (k : Int) < 30 := Int.lt_of_lt_of_le hk a5; omega)]
    exact a8 k hk
set_option maxRecDepth 20000 in
theorem ex_end {z : KSo} {S t : Int} {ks is nl : Nat → Int} {nm : Nat → Int32} {n2 : Nat} (h : S ≤ t) : L25_Rd_readExports fu (n2 + 1) z (KEx.mk S ks is nl nm) t = .ret (z, KEx.mk S ks is nl nm, t) := by
  rw [L25_Rd_readExports.eq_2, if_pos h]
set_option maxRecDepth 20000 in
theorem ex_step {z : KSo} {S : Int} {t : Nat} {ks is nl : Nat → Int} {nm : Nat → Int32} {n2 : Nat} (h : ¬ S ≤ t) (ht : t < 40) : L25_Rd_readExports fu (n2 + 1) z (KEx.mk S ks is nl nm) t = obind (f_So_unsigned fu z 30) (fun p => obind (L52_Rd_readExports fu t fu p.1 (KEx.mk S ks is (updZ nl t p.2.toInt32.toInt) nm) 0) (fun y => obind (f_So_octet y.1) (fun u => obind (f_So_unsigned fu (if u.2 = 0 ∨ u.2 = 2 ∨ u.2 = 3 then u.1 else KSo.mk u.1.at_ u.1.limit true u.1.bytes) 2147483647) (fun v => L25_Rd_readExports fu n2 v.1 (KEx.mk y.2.1.size (updZ y.2.1.kinds t u.2) (updZ y.2.1.indices t v.2.toInt32.toInt) y.2.1.nameLengths y.2.1.names) ((t + 1 : Nat) : Int))))) := by
  have hc : (0 : Int) ≤ t ∧ (t : Int) < 40 := by omega
  have hr : R32 ((t : Int) + 1) := by omega
  rw [L25_Rd_readExports.eq_2, if_neg (show ¬ (KEx.mk S ks is nl nm).size ≤ t from h)]
  simp only [if_pos hc, if_pos hr, Int.toNat_natCast, so_fail, obind_ret, jp]
  congr 1; funext p
  congr 1; funext y
  congr 1; funext u
  by_cases c0 : u.2 = 0
  · rw [if_pos c0, if_pos (Or.inl c0)]; rfl
  · by_cases c2 : u.2 = 2
    · rw [if_neg c0, if_pos c2, if_pos (Or.inr (Or.inl c2))]; rfl
    · by_cases c3 : u.2 = 3
      · rw [if_neg c0, if_neg c2, if_pos c3, if_pos (Or.inr (Or.inr c3))]; rfl
      · rw [if_neg c0, if_neg c2, if_neg c3, if_neg (by omega)]; rfl
set_option maxRecDepth 20000 in
theorem ex_dead (hfu : 40 < fu) {T : Nat} (hT : T ≤ 40) : ∀ (j t : Nat) (a : Int) (ks is nl : Nat → Int) (nm : Nat → Int32) (n2 : Nat), t + j = T → j < n2 → Dd a L f (fun _ => True) (L25_Rd_readExports fu n2 (KSo.mk a L true f) (KEx.mk T ks is nl nm) t) := by
  intro j
  induction j with
  | zero =>
    intro t a ks is nl nm n2 hk hn
    obtain ⟨n2, rfl⟩ : ∃ q, n2 = q + 1 := ⟨n2 - 1, by omega⟩
    rw [ex_end (by omega)]; exact Dd.ret trivial
  | succ j ih =>
    intro t a ks is nl nm n2 hk hn
    obtain ⟨n2, rfl⟩ : ∃ q, n2 = q + 1 := ⟨n2 - 1, by omega⟩
    rw [ex_step (by omega) (by omega), so_unsD (by omega), obind_ret]
    dsimp only
    rw [show (0 : Int64).toInt32.toInt = ((0 : Nat) : Int) by decide]
    obtain ⟨nm', e⟩ := nm_dead (fu := fu) (f := f) (L := L) (x := t) (by omega) (N := 0) (by omega) (S := T) (ks := ks) (is := is) (nl := updZ nl t ((0 : Nat) : Int)) (updZ_s _ _ _) 0 0 a nm fu rfl (by omega)
    rw [show ((0 : Nat) : Int) = (0 : Int) from rfl] at e
    rw [show ((0 : Nat) : Int) = (0 : Int) from rfl, e, obind_ret]
    dsimp only
    rw [so_octE (Or.inl rfl), obind_ret]
    dsimp only
    rw [if_pos (Or.inl rfl), so_unsD (by omega), obind_ret]
    exact ih (t + 1) a _ _ _ _ n2 (by omega) (by omega)
set_option maxRecDepth 20000 in
theorem mex_end {r : Int} {c : KMc} {tp : KMt} {w : KM7} {t : Int} {n1 : Nat} (h : w.exports ≤ t) : L396_Mo_sectionOf fu zk tp m1 mp z3 zj zl z5 z6 ze (n1 + 1) r c w t = .ret (r, c, w, t) := by
  rw [L396_Mo_sectionOf.eq_2, if_pos h]
set_option maxRecDepth 20000 in
theorem lp_ex (hB : BB f) (hfu : 40 < fu) (hL : L ≤ 2000) {T : Nat} (hT : T ≤ 40) : ∀ (j t : Nat) (a : Int) (ks is nl : Nat → Int) (nm : Nat → Int32) (ek na ml : Nat → Int) (eo : Nat → Int64) (n1 n2 : Nat), t + j = T → 0 ≤ a → a ≤ L → j < n1 → j < n2 → ERel f t (KEx.mk T ks is nl nm) (KM7.mk T ek eo na ml) →
    Sm a L f (fun t => t.1 = 1) (fun _ => True) (L396_Mo_sectionOf fu zk (KMt.mk f n) m1 mp z3 zj zl z5 z6 ze n1 r (KMc.mk a L) (KM7.mk T ek eo na ml) t) (L25_Rd_readExports fu n2 (KSo.mk a L false f) (KEx.mk T ks is nl nm) t) (fun q x y => ∃ w m, x = (r, KMc.mk q L, m, (T : Int)) ∧ y = (w, (T : Int)) ∧ w.size = T ∧ m.exports = T ∧ ERel f T w m) := by
  intro j
  induction j with
  | zero =>
    intro t a ks is nl nm ek na ml eo n1 n2 hk h0 h1 hn1 hn2 hR
    obtain ⟨n1, rfl⟩ : ∃ q, n1 = q + 1 := ⟨n1 - 1, by omega⟩
    obtain ⟨n2, rfl⟩ : ∃ q, n2 = q + 1 := ⟨n2 - 1, by omega⟩
    obtain rfl : t = T := by omega
    rw [mex_end (by show (t : Int) ≤ t; omega), ex_end (by omega)]
    exact Sm.ret h1 ⟨_, _, rfl, rfl, rfl, rfl, hR⟩
  | succ j ih =>
    intro t a ks is nl nm ek na ml eo n1 n2 hk h0 h1 hn1 hn2 hR
    obtain ⟨n1, rfl⟩ : ∃ q, n1 = q + 1 := ⟨n1 - 1, by omega⟩
    obtain ⟨n2, rfl⟩ : ∃ q, n2 = q + 1 := ⟨n2 - 1, by omega⟩
    have hc : (0 : Int) ≤ t ∧ (t : Int) < 40 := by omega
    have hr : R32 ((t : Int) + 1) := by omega
    rw [L396_Mo_sectionOf.eq_2, if_neg (show ¬ (KM7.mk T ek eo na ml).exports ≤ t by show ¬ (T : Int) ≤ t; omega), ex_step (by omega) (by omega)]
    simp only [jp_ite]
    simp only [jp, rd_ite, rd_ite', mo_read, mo_readE, obind2_ret, obind2_thr, if_pos hc, if_pos hr, Int.toNat_natCast, updZ_s]
    refine PrR.bind (pr_few (by decide) (by omega) h0 h1 hL) (by decide) ?_ (fun c => ⟨_, rfl, rfl⟩) ?_
    · rintro q N v h2 h3 ⟨k1, k2, k3, k4⟩
      have k4 : N ≤ 30 := k4
      obtain ⟨N, rfl⟩ := Int.eq_ofNat_of_zero_le k3
      obtain ⟨q, rfl⟩ := Int.eq_ofNat_of_zero_le (show 0 ≤ q by omega)
      dsimp only
      rw [k2, if_pos (show R32 (L - q) by omega)]
      rcases nm_loop (fu := fu) hB hL (x := t) (by omega) (N := N) (by omega) (S := T) (ks := ks) (is := is) (nl := updZ nl t N) (updZ_s _ _ _) N 0 q nm fu (by omega) (by omega) h3 with ⟨nm', e1, e2, e3, e4⟩ | ⟨nm', e1, e2⟩
      · rw [show ((0 : Nat) : Int) = (0 : Int) from rfl] at e2
        rw [e2, obind_ret, if_neg (show ¬ L - (q : Int) < N by omega), if_pos (show R32 ((q : Int) + N) by omega)]
        dsimp only
        refine Sm.low (b := (q : Int) + N) ?_ (by omega)
        refine PrR.bind (pr_one (by omega) (by omega) hL) (by decide) ?_ (fun c => ⟨_, rfl, rfl⟩) ?_
        · rintro q2 K v h4 h5 ⟨rfl, h6, h7⟩
          dsimp only
          have tail : (K = 0 ∨ K = 2 ∨ K = 3) → Sm q2 L f (fun t => t.1 = 1) (fun _ => True) (obind2 (f_Mo_index fu r (KMc.mk q2 L) (KMt.mk f n)) (fun v => L396_Mo_sectionOf fu zk (KMt.mk f n) m1 mp z3 zj zl z5 z6 ze n1 v.1 v.2.1 (KM7.mk T (updZ ek t K) (vp_updL eo t ((iI v.2.2).toInt64)) (updZ na t q) (updZ ml t N)) ((t + 1 : Nat) : Int)) (fun v => .thr (v.1, v.2, zk, m1, mp, z3, zj, zl, z5, z6, KM7.mk T (updZ ek t K) eo (updZ na t q) (updZ ml t N), ze))) (obind (f_So_unsigned fu (KSo.mk q2 L false f) 2147483647) (fun v => L25_Rd_readExports fu n2 v.1 (KEx.mk T (updZ ks t K) (updZ is t v.2.toInt32.toInt) (updZ nl t N) nm') ((t + 1 : Nat) : Int))) (fun q x y => ∃ w m, x = (r, KMc.mk q L, m, (T : Int)) ∧ y = (w, (T : Int)) ∧ w.size = T ∧ m.exports = T ∧ ERel f T w m) := by
            intro hK
            refine PrR.bind (pr_idx (by omega) (by omega) (by omega) hL) (by decide) ?_ (fun c => ⟨_, rfl, rfl⟩) ?_
            · rintro q3 I v h8 h9 ⟨g1, g2, g3, g4⟩
              dsimp only
              rw [g2]
              refine ih (t + 1) q3 _ _ _ _ _ _ _ _ n1 n2 (by omega) (by omega) h9 (by omega) (by omega) (hR.add hK (by omega) (by omega) (by omega) (by omega) ?_ (fun i hi => e4 i (by omega)) g3 g4)
              intro k hk
              have := e3 k (by omega)
              rw [show t * 30 + k = t * 30 + 0 + k by omega, this]; rfl
            · intro q3 v _ _ hv
              exact ex_dead hfu hT j (t + 1) q3 _ _ _ _ n2 (by omega) (by omega)
          by_cases c0 : K = 0
          · subst c0
            rw [if_pos rfl, if_pos (Or.inl rfl)]
            exact tail (Or.inl rfl)
          · by_cases c2 : K = 2
            · subst c2
              rw [if_neg c0, if_pos rfl, if_pos (Or.inr (Or.inl rfl))]
              exact tail (Or.inr (Or.inl rfl))
            · by_cases c3 : K = 3
              · subst c3
                rw [if_neg c0, if_neg c2, if_pos rfl, if_pos (Or.inr (Or.inr rfl))]
                exact tail (Or.inr (Or.inr rfl))
              · rw [if_neg c0, if_neg c2, if_neg c3, if_neg (by omega)]
                refine Sm.thr h5 rfl ?_
                rw [so_unsD (by omega), obind_ret]
                exact ex_dead hfu hT j (t + 1) q2 _ _ _ _ n2 (by omega) (by omega)
        · rintro q2 v h4 h5 rfl
          dsimp only
          rw [if_pos (Or.inl rfl), so_unsD (by omega), obind_ret]
          exact ex_dead hfu hT j (t + 1) q2 _ _ _ _ n2 (by omega) (by omega)
      · rw [show ((0 : Nat) : Int) = (0 : Int) from rfl] at e2
        rw [e2, obind_ret, if_pos (show L - (q : Int) < N by omega)]
        refine Sm.low (b := L) ?_ h3
        refine Sm.thr (by omega) rfl ?_
        dsimp only
        rw [so_octE (Or.inl rfl), obind_ret]
        dsimp only
        rw [if_pos (Or.inl rfl), so_unsD (by omega), obind_ret]
        exact ex_dead hfu hT j (t + 1) L _ _ _ _ n2 (by omega) (by omega)
    · rintro q v h2 h3 rfl
      dsimp only
      rw [show (0 : Int64).toInt32.toInt = ((0 : Nat) : Int) by decide]
      obtain ⟨nm', e⟩ := nm_dead (fu := fu) (f := f) (L := L) (x := t) (by omega) (N := 0) (by omega) (S := T) (ks := ks) (is := is) (nl := updZ nl t ((0 : Nat) : Int)) (updZ_s _ _ _) 0 0 q nm fu rfl (by omega)
      rw [show ((0 : Nat) : Int) = (0 : Int) from rfl] at e
      rw [show ((0 : Nat) : Int) = (0 : Int) from rfl, e, obind_ret]
      dsimp only
      rw [so_octE (Or.inl rfl), obind_ret]
      dsimp only
      rw [if_pos (Or.inl rfl), so_unsD (by omega), obind_ret]
      exact ex_dead hfu hT j (t + 1) q _ _ _ _ n2 (by omega) (by omega)
set_option maxRecDepth 20000 in
theorem ex_secD (hfu : 40 < fu) (w : KEx) : Dd a L f (fun _ => True) (f_Rd_readExports fu (KSo.mk a L true f) w) := by
  unfold f_Rd_readExports
  refine (Dd.uns (by omega)).bind fun y hy => ?_
  subst hy
  refine (ex_dead hfu (T := 0) (by omega) 0 0 a w.kinds w.indices w.nameLengths w.names fu (by omega) (by omega)).bind fun y _ => Dd.ret trivial
set_option maxRecDepth 20000 in
theorem ex_sec (hB : BB f) (hfu : 40 < fu) (h0 : 0 ≤ a) (h1 : a ≤ L) (hL : L ≤ 2000) (w : KEx) : Sm a L f (fun t => t.1 = 1) (fun _ => True) (f_Mo_sectionOf fu r (KMc.mk a L) zk (KMt.mk f n) m1 mp z3 zj zl z5 z6 z7 ze 7) (f_Rd_readExports fu (KSo.mk a L false f) w) (fun q x y => ∃ (T : Nat) (m : KM7), x = (r, KMc.mk q L, zk, m1, mp, z3, zj, zl, z5, z6, m, ze) ∧ T ≤ 40 ∧ y.size = T ∧ m.exports = T ∧ ERel f T y m) := by
  unfold f_Mo_sectionOf f_Rd_readExports
  simp only [jp]
  rw [if_neg (show ¬ (7 : Int) = 1 by decide), if_neg (show ¬ (7 : Int) = 3 by decide), if_neg (show ¬ (7 : Int) = 5 by decide), if_neg (show ¬ (7 : Int) = 6 by decide), if_pos trivial]
  refine PrR.bind (pr_few (by decide) (by omega) h0 h1 hL) (by decide) ?_ (fun c => ⟨_, rfl, rfl⟩) ?_
  · rintro q N v h2 h3 ⟨k1, k2, k3, k4⟩
    have k4 : N ≤ 40 := k4
    obtain ⟨N, rfl⟩ := Int.eq_ofNat_of_zero_le k3
    dsimp only
    rw [k2]
    refine Sm.bind (lp_ex hB hfu hL (T := N) (by omega) N 0 q _ _ _ _ _ _ _ _ fu fu (by omega) (by omega) h3 (by omega) (by omega) (fun k hk => absurd hk (by omega))) ?_ (fun t ht => ⟨t, rfl, ht⟩) ?_
    · rintro q2 x y h4 h5 ⟨w', m', rfl, rfl, e1, e2, e3⟩
      exact Sm.ret h5 ⟨N, m', rfl, by omega, e1, e2, e3⟩
    · intro q2 y _ _ _
      exact Dd.ret trivial
  · rintro q v h2 h3 rfl
    refine (ex_dead hfu (T := 0) (by omega) 0 0 q w.kinds w.indices w.nameLengths w.names fu (by omega) (by omega)).bind fun y _ => Dd.ret trivial
end SGE
