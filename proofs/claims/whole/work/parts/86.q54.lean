/-! RUN: branches -/
section BRA
variable {fu g0 g i b lt h : Nat} {f : Nat → Int32} {n sp r : Int} {C : KCo} {M : KMe} {W1 : KW1} {W3 : KW3} {Wj : KWj} {W5 : KW5} {M1 : KM1} {Mp : KMp} {M3 : KM3} {Mj : KMj} {Ml : KMl} {M5 : KM5} {M6 : KM6} {ct : KCt} {X : SP} {R : List (Nat × Nat × Nat)} {af : KAf} {rr : KRr} {rl : KRl} {st st' vs : Nat → Int64}
set_option maxRecDepth 20000 in
/-- the innermost call goes on elsewhere, with fewer open blocks -/
theorem FI.jmp {i' m : Nat} {y : Fr} {R1 : SS} {lt' : Int} (e : X.F g i' = y :: R1) (hF : FI X M1 Mp M3 Mj Ml af rr rl st ((g, i, b) :: R) 0 lt h) (h1 : X.s g ≤ i') (h2 : i' ≤ X.e g) (hk : X.k g i' = (X.k g i).drop m) (hm : m ≤ (X.k g i).length) (hL : Live (y :: R1)) (hs : ∀ k, k < b + nv M1 M3 Mj g → st' k = st k) (hT : VT st' (b + nv M1 M3 Mj g) (flat (y :: R1))) : FI X M1 Mp M3 Mj Ml af rr (KRl.mk rl.labelAt rl.labelHeight lt') st' ((g, i', b) :: R) 0 (lt - m) (b + nv M1 M3 Mj g + tot (y :: R1)) := by
  obtain ⟨a1, a2, a3, a4, a5, a6, a7, a8, a9, ⟨x, R0, b1, b2, b3, b4⟩, lb, c1, c2, c3, c4, c5⟩ := hF
  dsimp only at *
  have hlen : (X.k g i').length = (X.k g i).length - m := by rw [hk, List.length_drop]
  refine ⟨a1, h1, h2, a4, a5, a6, a7, a8, a9.cg (fun k hk => hs k hk), ⟨y, R1, e, hL, rfl, hT⟩, lb, c1, c2, by show lt - m = lb + 1 + (X.k g i').length; omega, ?_, FI.cg c5 (fun k _ => ⟨rfl, rfl, rfl, rfl, rfl, rfl, rfl⟩) (fun k _ => ⟨rfl, rfl⟩) (fun k hk => hs k (Nat.lt_of_lt_of_le hk (Nat.le_add_right _ _)))⟩
  show LB X g _ _ (lt - m) (X.k g i')
  rw [hk]
  intro k o hko
  rw [List.getElem?_drop] at hko
  have := c4 (m + k) o hko
  rwa [show lt - 1 - (m + k) = lt - m - 1 - k by omega] at this
set_option maxRecDepth 20000 in
/-- a byte that is 3 -/
theorem by3 (hB : BB f) (k : Nat) : (f k).toInt = 3 ↔ by8 (f k) = 3 := by
  have h := hB k
  have h2 : (f k).toInt = (f k).toInt8.toInt := by rw [← h, Int8.toInt_toInt32, h]
  have h3 := Int8.le_toInt (f k).toInt8
  have h4 := Int8.toInt_lt (f k).toInt8
  rw [by8_B hB]
  by_cases c : (f k).toInt < 0
  · rw [if_pos c]; omega
  · rw [if_neg c]
set_option maxRecDepth 20000 in
/-- at an opener: the types behind it, under an empty block -/
theorem at_opn (hG : GF f n C M M1 Mp M3 Wj Mj Ml M5 M6 ct X g) {o : Nat} (h1 : X.s g ≤ o) (h2 : o < X.e g) (h3 : isOp (C.ops o)) : X.F g (o + 1) = ([], false, hdO C o) :: (X.F g (o + 1)).tail ∧ tot (X.F g (o + 1)) = tot (X.F g (o + 1)).tail ∧ ct.heights o = (tot (X.F g (o + 1)).tail : Int) ∧ X.k g (o + 1) = o :: X.k g o ∧ by8 (f (X.p g o).toNat) = C.ops o ∧ by8 (f (X.p g o + 1).toNat) = C.extras o ∧ (C.extras o = 64 ∨ C.extras o = 127 ∨ C.extras o = 126) ∧ X.p g (o + 1) = X.p g o + 1 + 1 ∧ 0 ≤ X.p g o ∧ X.p g (o + 1) ≤ 2000 := by
  have hV := hG.2.2.2.2.2.2.2.2.2.2.2.2.2.2
  obtain ⟨x, R, e1, e2⟩ := stV_inv (hV.2.1 o h1 h2)
  obtain ⟨d1, d2, d3, d4, d5, d6⟩ := hG.2.2.2.2.2.2.2.1 o h1 h2
  obtain ⟨k1, k2, k3⟩ := d6.1 h3
  have hF : ∃ y, X.F g (o + 1) = ([], false, hdO C o) :: y :: R := by
    rcases e2 with ⟨c, y, f1, f2⟩ | ⟨c, w, R', f1, f2, f3⟩ | ⟨c, f2⟩ | ⟨c1, c2, c3, y, f1, f2⟩
    · exact ⟨y, f2⟩
    · omega
    · omega
    · exact absurd h3 c1
  obtain ⟨y, hF⟩ := hF
  have ht : tot (X.F g (o + 1)) = tot (X.F g (o + 1)).tail := by rw [hF]; rfl
  refine ⟨by rw [hF]; rfl, ht, ?_, (hG.2.2.2.2.2.2.2.2.1.2.1 o h1 h2).1 h3, d4, k2.symm, k3, k1, d1, d3⟩
  rw [← ht]; exact (hV.2.2.2 o h1 h2).1 h3
set_option maxRecDepth 20000 in
theorem br_both (hX : CX f n C M W1 W3 Wj W5 M1 Mp M3 Mj Ml M5 M6 ct X) (hS : StI X M1 Mp M3 Mj Ml g0 g i b R lt h af rr rl st vs) {x x' z : Fr} {R0 : SS} {l0 : List Int} {h' k : Nat} {l : Int} (e1 : X.F g i = x :: R0) (hx : x.1 = l0 ++ x'.1) (hx2 : x'.2 = x.2) (hh' : h' = h - l0.length) (hl : labA (x :: R0) k = some l) (hz : popO l x' = some z) {nx c : Int} : ∃ (ma' : KMa) (as' : KAs) (af' : KAf) (mc' : KMc) (rs' : KRs) (rr' : KRr) (rl' : KRl) (lb : Nat) (goes : Bool), f_Ma_branch C ct W1 W3 Wj (KMa.mk sp 0 nx) (KAs.mk st h') af (tgt (X.k g i) k) = .ret (ma', as', af') ∧ f_Mo_branch r (KMc.mk c n) (KRs.mk vs h') rr rl (KMt.mk f n) M1 M3 M k = .ret (r, mc', rs', rr', rl', goes) ∧ ma'.steps = sp ∧ lb ≤ lt ∧ ((goes = true ∧ RI X M1 Mp M3 Mj Ml n g0 ma' as' af' mc' rs' rr' rl' lb) ∨ (goes = false ∧ ma'.reason = 0 ∧ af'.depth = 0 ∧ (res M1 M3 g0 ≠ 0 → as'.stack 0 = rs'.values 0))) := by
  have hG := hS.gf hX
  obtain ⟨x9, R9, v1, v2, v3, v4⟩ := hS.1.vals
  rw [e1] at v2 v3 v4
  have hs : X.s g ≤ i := hS.1.2.1
  have hie : i ≤ X.e g := hS.1.2.2.1
  have hn := hX.2.2.2.2.1
  have hh := hS.2.2.2.2.2.2.2.1
  have ha := hS.2.2.2.2.2.2.2.2.1
  have hlt := hS.lle hX
  have hrl := hS.2.2.2.2.2.1
  have hvl := hS.2.2.2.1
  have hSK := hG.2.2.2.2.2.2.2.2.1
  have hste := hG.2.2.2.2.2.2.2.2.2.1
  have hV := hG.2.2.2.2.2.2.2.2.2.2.2.2.2.2
  have hLI := LI.all hSK hV (i - X.s g) i (by omega) hie
  rw [e1] at hLI
  have hlen := hLI.len
  have hxl : lv x' := ⟨by rw [hx2]; exact (Live.cons.mp v2).1.1, fun t ht => (Live.cons.mp v2).1.2 t (by rw [hx]; exact List.mem_append_right _ ht)⟩
  have hfl : flat (x :: R0) = l0 ++ (x'.1 ++ flat R0) := by show x.1 ++ flat R0 = _; rw [hx, List.append_assoc]
  have htt : tot (x :: R0) = l0.length + (x'.1 ++ flat R0).length := by show (flat (x :: R0)).length = _; rw [hfl, List.length_append]
  have hh2 : h' = b + nv M1 M3 Mj g + (x'.1 ++ flat R0).length := by omega
  have v5 : VT st (b + nv M1 M3 Mj g) (x'.1 ++ flat R0) := by rw [hfl] at v4; exact VT.app l0 _ v4
  obtain ⟨lb0, hlb1, hlb2, hlb3, hlb4, _⟩ := hS.1.2.2.2.2.2.2.2.2.2.2
  dsimp only at hlb1 hlb2 hlb3 hlb4
  obtain ⟨xk, hxk, hxl2⟩ : ∃ xk : Fr, (x :: R0)[k]? = some xk ∧ xk.2.2.1 = l := omap_some hl
  have hkl : k < (x :: R0).length := (List.getElem?_eq_some_iff.mp hxk).1
  cases ho : (X.k g i)[k]? with
  | none =>
    have hk : k = (X.k g i).length := by have := List.getElem?_eq_none_iff.mp ho; omega
    obtain ⟨xb, f1, f2⟩ := hLI.bot
    rw [← hk, hxk] at f1
    have hlr : l = res M1 M3 g := by rw [← hxl2, Option.some.inj f1, f2]
    rw [hlr] at hz
    have hrs := hX.1.rs hS.1.1
    obtain ⟨p1, p2, p3⟩ := popO_live hz hrs hxl
    have hone : b + one (res M1 M3 g) ≤ h' := by
      by_cases q : res M1 M3 g = 0
      · rw [show one (res M1 M3 g) = 0 from if_pos q]; omega
      · rw [if_neg q] at p1
        rw [show one (res M1 M3 g) = 1 from if_neg q, hh2, p1, List.cons_append, List.length_cons]; omega
    have hval : res M1 M3 g = 127 → R32 (st (h' - 1)).toInt := fun q => by
      rw [if_neg (show ¬ res M1 M3 g = 0 by omega)] at p1
      rw [p1, List.cons_append] at v5 hh2
      have := v5.1 q
      rwa [show b + nv M1 M3 Mj g + (z.1 ++ flat R0).length = h' - 1 by rw [List.length_cons] at hh2; omega] at this
    obtain ⟨ma', as', af', mc', rs', rr', rl', lb, y1, y2, y3, y4, y5⟩ := lv_both (sp := sp) (r := r) (nx := nx) (c := c) (rl' := rl) (h' := h') hX hS ⟨rfl, rfl⟩ (by omega) hone hval
    have et : tgt (X.k g i) k = -1 := by unfold tgt; rw [ho]
    refine ⟨ma', as', af', mc', rs', rr', rl', lb, decide (R ≠ []), ?_, ?_, y3, by omega, ?_⟩
    · unfold f_Ma_branch
      rw [et]
      simp only [jp]
      rw [if_neg (by decide), y1, obind_ret]
    · unfold f_Mo_branch
      have ei : rl.labelTop - 1 - (k : Int) = (lb0 : Int) := by omega
      rw [if_pos (show R32 (rl.labelTop - 1) by omega), ei, if_pos (by omega), if_pos (by omega), Int.toNat_natCast, hlb2, if_neg (by decide), y2, obind2_ret]
    · rcases y5 with ⟨y5, y6⟩ | ⟨y5, y6⟩
      · exact Or.inl ⟨decide_eq_true y5, y6⟩
      · exact Or.inr ⟨decide_eq_false (fun q => q y5), y6⟩
  | some o =>
    obtain ⟨xo, f1, f2, f3, f4, f5, f6, f7, f8⟩ := hLI.get ho
    rw [hxk] at f1
    cases f1
    obtain ⟨u1, u2, u3, u4, u5, u6, u7, u8, u9, u10⟩ := at_opn hG f5 f6 f7
    obtain ⟨E, w, R', w1, w2, w3, w4, w5, w6, w7, w8, w9⟩ := at_end hSK hste hV f5 f6 f7
    have hkn : k < (X.k g i).length := (List.getElem?_eq_some_iff.mp ho).1
    obtain ⟨q1, q2⟩ := hlb4 k o ho
    have f3' : R0.drop k = (X.F g (o + 1)).tail := f3
    -- what lies under the block
    have hQl : Live (X.F g (o + 1)).tail := by rw [← f3']; exact Live.drop (Live.cons.mp v2).2 k
    have hfd : ∀ (m : Nat) (L : SS), ∃ p, flat L = p ++ flat (L.drop m) := by
      intro m
      induction m with
      | zero => intro L; exact ⟨[], rfl⟩
      | succ m ih =>
        intro L
        cases L with
        | nil => exact ⟨[], rfl⟩
        | cons a L => obtain ⟨p, hp⟩ := ih L; exact ⟨a.1 ++ p, by show a.1 ++ flat L = _; rw [hp, List.append_assoc]; rfl⟩
    obtain ⟨p, hp⟩ := hfd k R0
    rw [f3'] at hp
    have v6 : VT st (b + nv M1 M3 Mj g) (flat (X.F g (o + 1)).tail) := by
      have := VT.app x'.1 _ v5
      rw [hp] at this
      exact VT.app p _ this
    have hQn : (flat R0).length = p.length + tot (X.F g (o + 1)).tail := by rw [hp, List.length_append]; rfl
    have eB : af.values + ct.heights o = ((b + nv M1 M3 Mj g + tot (X.F g (o + 1)).tail : Nat) : Int) := by rw [hvl, u3]; omega
    have et : tgt (X.k g i) k = (o : Int) := by unfold tgt; rw [ho]
    have ho2 : o < 2000 := by have := hG.2.2.1; omega
    have ei : rl.labelTop - 1 - (k : Int) = ((lt - 1 - k : Nat) : Int) := by omega
    have hty := rT_uT u7
    have eb3 : (f (X.p g o).toNat).toInt = 3 ↔ C.ops o = 3 := by rw [by3 hX.2.2.2.2.2.2.2, u5]
    have hME := hG.2.2.2.2.2.2.2.2.2.2.1 o f5 f6 f7
    have heo : M.endOf (X.p g o).toNat = X.p g E := by rw [hME.2 (by rw [hste]; exact List.not_mem_nil), w1, Int.toNat_natCast]
    have hpE : X.p g (E + 1) = X.p g E + 1 := (hG.2.2.2.2.2.2.2.1 E (by omega) w3).2.2.2.2.2.2.2.2.2.2.2.2 (by omega)
    have hpE0 := (hG.2.2.2.2.2.2.2.1 E (by omega) w3).1
    have hpE1 := (hG.2.2.2.2.2.2.2.1 E (by omega) w3).2.2.1
    have ebt : f_Mo_blockType (KMt.mk f n) (X.p g o) = .ret (C.extras o) := by
      unfold f_Mo_blockType
      rw [if_pos (by omega), if_pos (by omega)]
      rw [← u6]
    have hdr : (X.k g i).drop k = o :: X.k g o := by
      rw [← f4]
      obtain ⟨j1, j2⟩ := List.getElem?_eq_some_iff.mp ho
      rw [← j2]; exact List.drop_eq_getElem_cons j1
    have heg := hG.2.2.1
    have hb9 : b + nv M1 M3 Mj g + tot (X.F g (o + 1)).tail ≤ h' := by rw [hh2, List.length_append]; omega
    obtain ⟨s1, s2, s3, s4, s5, s6, s7, s8, s9, s10⟩ := hS
    by_cases c3 : C.ops o = 3
    · have hF := s1.jmp (i' := o + 1) (m := k) (st' := st) (lt' := ((lt - k : Nat) : Int)) u1 (by omega) (by omega) (by rw [u4, hdr]) (by omega) (Live.cons.mpr ⟨⟨rfl, fun t ht => absurd ht List.not_mem_nil⟩, hQl⟩) (fun _ _ => rfl) (by exact v6)
      refine ⟨KMa.mk sp 0 ((o + 1 : Nat) : Int), KAs.mk st ((b + nv M1 M3 Mj g + tot (X.F g (o + 1)).tail : Nat) : Int), af, KMc.mk (X.p g (o + 1)) n, KRs.mk vs ((b + nv M1 M3 Mj g + tot (X.F g (o + 1)).tail : Nat) : Int), rr, KRl.mk rl.labelAt rl.labelHeight ((lt - k : Nat) : Int), lt - k, true, ?_, ?_, rfl, by omega, Or.inl ⟨rfl, g, o + 1, b, R, _, ⟨hF, s2, s3, s4, s5, rfl, s7, ?_, fun k' hk' => s9 k' ?_, ?_⟩, rfl, rfl, rfl, rfl, rfl⟩⟩
      · unfold f_Ma_branch
        rw [et]
        simp only [jp]
        rw [if_pos (show (0 : Int) ≤ (o : Int) by omega)]
        simp only [if_pos (show (0 : Int) ≤ (o : Int) ∧ (o : Int) < 2000 by omega), Int.toNat_natCast]
        rw [if_pos c3, eB, if_pos (by omega), if_pos (by omega)]
        rfl
      · unfold f_Mo_branch
        simp only [jp]
        rw [if_pos (show R32 (rl.labelTop - 1) by omega), ei, if_pos (by omega), if_pos (by omega), Int.toNat_natCast, q1, if_pos u9, if_pos (by omega), if_pos (eb3.mpr c3), q2, u2]
        simp only [reduceIte, Bool.false_eq_true]
        rw [if_pos (by omega), if_pos (by omega), if_pos (by omega), u8, show ((lt - 1 - k : Nat) : Int) + 1 = ((lt - k : Nat) : Int) by omega, show X.p g o + 2 = X.p g o + 1 + 1 by omega]
      · show b + nv M1 M3 Mj g + tot _ ≤ 12096
        rw [List.length_append] at hh2
        show b + nv M1 M3 Mj g + (tot (X.F g (o + 1)).tail) ≤ 12096
        omega
      · have hk'' : k' < b + nv M1 M3 Mj g + tot (X.F g (o + 1)).tail := hk'
        rw [List.length_append] at hh2
        omega
      · cases R with
        | nil => exact s10
        | cons a R' => exact s10
    · have hlv : l = uT (C.extras o) := by rw [← hxl2, f2]; show (if C.ops o = 3 then 0 else uT (C.extras o)) = _; rw [if_neg c3]
      rw [hlv] at hz
      obtain ⟨p1, p2, p3⟩ := popO_live hz hty.2 hxl
      have hone : b + nv M1 M3 Mj g + tot (X.F g (o + 1)).tail + one (uT (C.extras o)) ≤ h' := by
        rw [hh2, List.length_append, p1]
        by_cases q : uT (C.extras o) = 0
        · rw [show one (uT (C.extras o)) = 0 from if_pos q]; omega
        · rw [show one (uT (C.extras o)) = 1 from if_neg q, if_neg q, List.length_cons]; omega
      have hval : uT (C.extras o) = 127 → R32 (st (h' - 1)).toInt := fun q => by
        rw [if_neg (show ¬ uT (C.extras o) = 0 by omega)] at p1
        rw [p1, List.cons_append] at v5 hh2
        have := v5.1 q
        rwa [show b + nv M1 M3 Mj g + (z.1 ++ flat R0).length = h' - 1 by rw [List.length_cons] at hh2; omega] at this
      generalize ht : uT (C.extras o) = t at *
      rw [u2] at q2
      rw [w7] at hQl v6 eB hone hQn q2 u3 hb9
      obtain ⟨y1, y2⟩ := pushA_live hty.2 (Live.cons.mp hQl).1
      have hst : ∀ k', k' < b + nv M1 M3 Mj g → stp st t (b + nv M1 M3 Mj g + tot (w :: R')) (st (h' - 1)) k' = st k' := fun k' hk' => stp_lo (by omega)
      have htot : tot (pushA t w :: R') = tot (w :: R') + one t := by
        show ((pushA t w).1 ++ flat R').length = (w.1 ++ flat R').length + one t
        rw [y2]
        by_cases q : t = 0
        · rw [if_pos q, show one t = 0 from if_pos q]; rfl
        · rw [if_neg q, show one t = 1 from if_neg q]; rfl
      have hvt : VT (stp st t (b + nv M1 M3 Mj g + tot (w :: R')) (st (h' - 1))) (b + nv M1 M3 Mj g) (flat (pushA t w :: R')) := by
        show VT _ _ ((pushA t w).1 ++ flat R')
        rw [y2]
        by_cases q : t = 0
        · rw [if_pos q, show stp st t (b + nv M1 M3 Mj g + tot (w :: R')) (st (h' - 1)) = st from if_pos q]; exact v6
        · rw [if_neg q, show stp st t (b + nv M1 M3 Mj g + tot (w :: R')) (st (h' - 1)) = vp_updL st (b + nv M1 M3 Mj g + tot (w :: R')) (st (h' - 1)) from if_neg q]
          exact VT.push v6 hval
      have hF := s1.jmp (i' := E + 1) (m := k + 1) (lt' := ((lt - 1 - k : Nat) : Int)) w8 (by omega) (by omega) (by rw [w6, f4]) (by omega) (Live.cons.mpr ⟨y1, (Live.cons.mp hQl).2⟩) hst hvt
      rw [htot, show b + nv M1 M3 Mj g + (tot (w :: R') + one t) = b + nv M1 M3 Mj g + tot (w :: R') + one t by omega] at hF
      refine ⟨KMa.mk sp 0 ((E + 1 : Nat) : Int), KAs.mk (stp st t (b + nv M1 M3 Mj g + tot (w :: R')) (st (h' - 1))) ((b + nv M1 M3 Mj g + tot (w :: R') + one t : Nat) : Int), af, KMc.mk (X.p g (E + 1)) n, KRs.mk (stp vs t (b + nv M1 M3 Mj g + tot (w :: R')) (st (h' - 1))) ((b + nv M1 M3 Mj g + tot (w :: R') + one t : Nat) : Int), rr, KRl.mk rl.labelAt rl.labelHeight ((lt - 1 - k : Nat) : Int), lt - (k + 1), true, ?_, ?_, rfl, by omega, Or.inl ⟨rfl, g, E + 1, b, R, _, ⟨hF, s2, s3, s4, s5, by show ((lt - 1 - k : Nat) : Int) = ((lt - (k + 1) : Nat) : Int); omega, s7, by omega, fun k' hk' => ?_, ?_⟩, rfl, rfl, rfl, rfl, rfl⟩⟩
      · unfold f_Ma_branch
        rw [et]
        simp only [jp]
        rw [if_pos (show (0 : Int) ≤ (o : Int) by omega)]
        simp only [if_pos (show (0 : Int) ≤ (o : Int) ∧ (o : Int) < 2000 by omega), Int.toNat_natCast]
        rw [if_neg c3, eB, if_pos (by omega), ← hty.1, cm_unwind hty.2 hone (by omega), obind_ret, w1, if_pos (by omega)]
        rfl
      · unfold f_Mo_branch
        simp only [jp]
        rw [if_pos (show R32 (rl.labelTop - 1) by omega), ei, if_pos (by omega), if_pos (by omega), Int.toNat_natCast, q1, if_pos u9, if_pos (by omega), if_neg (fun q => c3 (eb3.mp q)), q2, ebt, obind_ret, heo]
        simp only [reduceIte, Bool.false_eq_true]
        simp only [if_pos (show (0 : Int) ≤ ((lt - 1 - k : Nat) : Int) ∧ ((lt - 1 - k : Nat) : Int) < 24000 by omega), if_pos (show (0 : Int) ≤ X.p g o ∧ X.p g o < 2000 by omega), if_pos (show R32 (X.p g E + 1) by omega)]
        rw [← hpE]
        by_cases q : t = 0
        · have e64 : C.extras o = 64 := by rw [← hty.1, q]; rfl
          rw [if_pos e64, show stp vs t (b + nv M1 M3 Mj g + tot (w :: R')) (st (h' - 1)) = vs from if_pos q, show one t = 0 from if_pos q]
          rfl
        · have e64 : ¬ C.extras o = 64 := fun q2 => q (by rw [← ht, q2]; rfl)
          have o1 : one t = 1 := if_neg q
          rw [if_neg e64, rm_pop (by omega) (by omega), obind_ret]
          dsimp only
          rw [rm_push (by omega), if_pos (show b + nv M1 M3 Mj g + tot (w :: R') < 12096 by omega), obind2_ret, show stp vs t (b + nv M1 M3 Mj g + tot (w :: R')) (st (h' - 1)) = vp_updL vs (b + nv M1 M3 Mj g + tot (w :: R')) (st (h' - 1)) from if_neg q, o1, s9 (h' - 1) (by omega)]
      · by_cases q : t = 0
        · rw [show stp vs t (b + nv M1 M3 Mj g + tot (w :: R')) (st (h' - 1)) = vs from if_pos q, show stp st t (b + nv M1 M3 Mj g + tot (w :: R')) (st (h' - 1)) = st from if_pos q]
          exact s9 k' (by omega)
        · rw [show stp vs t (b + nv M1 M3 Mj g + tot (w :: R')) (st (h' - 1)) = vp_updL vs (b + nv M1 M3 Mj g + tot (w :: R')) (st (h' - 1)) from if_neg q, show stp st t (b + nv M1 M3 Mj g + tot (w :: R')) (st (h' - 1)) = vp_updL st (b + nv M1 M3 Mj g + tot (w :: R')) (st (h' - 1)) from if_neg q]
          exact ag_set s9 (show b + nv M1 M3 Mj g + tot (w :: R') + one t ≤ h by omega) hk'
      · cases R with
        | nil => exact s10
        | cons a R' => exact s10
end BRA
