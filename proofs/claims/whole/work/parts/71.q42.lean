/-! VALID: class and reference, one instruction -/
abbrev k4p (C : KCo) (l : List Nat) : Prop := l ≠ [] ∧ C.ops (l.headD 0) = 4 ∧ C.elses (l.headD 0) < 0
/-- what instruction i does to the types -/
abbrev stAt (M1 : KM1) (Mp : KMp) (M3 : KM3) (Mj : KMj) (Ml : KMl) (M5 : KM5) (M6 : KM6) (g : Nat) (C : KCo) (stk : Nat → List Nat) (i : Nat) (F : SS) : Option SS := stV M1 Mp M3 Mj Ml M5 M6 g C.labels (k4p C (stk i)) (C.ops i) (C.values i) (C.extras i) F
/-- before instruction i of a body -/
def VI (M1 : KM1) (M3 : KM3) (g s : Nat) (C : KCo) (stk : Nat → List Nat) (i : Nat) (F : SS) (bt : KBt) (bo : KBo) (z : KVt) (vo : KVo) : Prop :=
  RT bt F ∧ BOk bo F ∧ OPv bo.openers (stk i) ∧ ST z F ∧ VOk vo F ∧ KDr vo.kinds C.ops C.elses i (stk i) ∧ F.length = (stk i).length + 1 ∧ (sig F).getLast? = some (res M1 M3 g, res M1 M3 g) ∧ tot F + s ≤ i
section SKM
variable {ops en el : Nat → Int} {s e : Nat} {stk : Nat → List Nat}
set_option maxRecDepth 20000 in
/-- the open blocks at an instruction -/
theorem SK.mem (h : SK ops en el s e stk) : ∀ (m i : Nat), i = s + m → i ≤ e → (∀ o, o ∈ stk i → s ≤ o ∧ o < i ∧ isOp (ops o)) ∧ (∀ o t, stk i = o :: t → o ∉ t) ∧ (∀ o t, stk i = o :: t → ∀ o', o' ∈ t → o' < o) ∧ (stk i).length ≤ 100 ∧ (stk i).Pairwise (fun a b => b < a) := by
  intro m
  induction m with
  | zero =>
    intro i hi _
    have : i = s := by omega
    subst this
    rw [h.1]
    exact ⟨fun o ho => (by cases ho), fun o t q => (by cases q), fun o t q => (by cases q), Nat.zero_le _, List.Pairwise.nil⟩
  | succ m ih =>
    intro i hi hie
    obtain ⟨i, rfl⟩ : ∃ j, i = j + 1 := ⟨i - 1, by omega⟩
    obtain ⟨k1, k2, k3, k4, k5⟩ := ih i (by omega) (by omega)
    obtain ⟨a1, a2, a3, a4, a5⟩ := h.2.1 i (by omega) (by omega)
    have fin : ∀ l, stk (i + 1) = l → (∀ o, o ∈ l → s ≤ o ∧ o < i + 1 ∧ isOp (ops o)) → l.Pairwise (fun a b => b < a) → (∀ o, o ∈ stk (i + 1) → s ≤ o ∧ o < i + 1 ∧ isOp (ops o)) ∧ (∀ o t, stk (i + 1) = o :: t → o ∉ t) ∧ (∀ o t, stk (i + 1) = o :: t → ∀ o', o' ∈ t → o' < o) ∧ (stk (i + 1)).length ≤ 100 ∧ (stk (i + 1)).Pairwise (fun a b => b < a) := by
      rintro l rfl h1 h2
      refine ⟨h1, fun o t q => ?_, fun o t q o' ho' => ?_, a5, h2⟩
      · rw [q] at h2
        intro ho
        have := (List.pairwise_cons.mp h2).1 o ho
        omega
      · rw [q] at h2
        exact (List.pairwise_cons.mp h2).1 o' ho'
    by_cases c1 : isOp (ops i)
    · refine fin _ (a1 c1) (fun o ho => ?_) (List.pairwise_cons.mpr ⟨fun o ho => (k1 o ho).2.1, k5⟩)
      rcases List.mem_cons.mp ho with q | q
      · subst q; exact ⟨by omega, by omega, c1⟩
      · obtain ⟨b1, b2, b3⟩ := k1 o q; exact ⟨b1, by omega, b3⟩
    · by_cases c2 : ops i = 11
      · obtain ⟨o, t, b1, b2, b3, b4, b5⟩ := a2 c2
        rw [b1] at k1 k5
        exact fin t b2 (fun o' ho' => by obtain ⟨d1, d2, d3⟩ := k1 o' (List.mem_cons_of_mem _ ho'); exact ⟨d1, by omega, d3⟩) (List.pairwise_cons.mp k5).2
      · by_cases c3 : ops i = 5
        · obtain ⟨o, t, b1, b2, b3, b4, b5⟩ := a3 c3
          exact fin _ b2 (fun o' ho' => by obtain ⟨d1, d2, d3⟩ := k1 o' ho'; exact ⟨d1, by omega, d3⟩) k5
        · exact fin _ (a4 c1 c2 c3) (fun o' ho' => by obtain ⟨d1, d2, d3⟩ := k1 o' ho'; exact ⟨d1, by omega, d3⟩) k5
set_option maxRecDepth 20000 in
/-- no else but at an else -/
theorem SK.el_ne (h : SK ops en el s e stk) {i o : Nat} (h5 : ops i ≠ 5) (ho : s ≤ o) (hoe : o < e) (hop : isOp (ops o)) : (ops o = 4 ∧ 0 ≤ el o ∧ el o < ((i + 1 : Nat) : Int)) ↔ (ops o = 4 ∧ 0 ≤ el o ∧ el o < (i : Int)) := by
  rcases (h.2.2.1 o ho hoe hop).1 with q | ⟨x, q1, q2, q3, q4, q5, q6⟩
  · rw [q]; constructor <;> intro p <;> omega
  · have : x ≠ i := fun w => h5 (by rw [← w]; exact q4)
    rw [q1]; constructor <;> intro p <;> omega
end SKM
set_option maxRecDepth 20000 in
theorem Cv.toX {g : Int} {R : SS} {N : Nat} {bo : KBo} {x : Fr} {Ct : KCt} {stk : List Nat} {P : KCt → SS → Prop} {G : Out Empty (KBV × KBt)} {X : Option Fr} (h : Cv g R N G X) (hB : BOk bo (x :: R)) (hO : OPv bo.openers stk) (hs : ∀ y, X = some y → y.2 = x.2) (hP : ∀ F, P Ct F) : Cx g N stk P (obind G (fun y => .ret (Ct, y.1, y.2, bo))) (X.map (fun y => y :: R)) := by
  rcases h with ⟨y, bt, rfl, rfl, h1, h2⟩ | ⟨bt, rfl, rfl, h1⟩
  · exact Or.inl ⟨_, _, _, _, rfl, rfl, h1, hB.vs (hs y rfl), hO, h2, hP _⟩
  · exact Cx.no rfl ⟨_, _, _, rfl⟩
set_option maxRecDepth 20000 in
theorem Rg.toX {r q L : Int} {R : SS} {N : Nat} {vo : KVo} {x : Fr} {F : Out (KRf × KMc × KVt × KVo) (KRf × KMc × KVt × KVo)} {X : Option Fr} (h : Rg R N (fun t : KRf × KMc × KVt × KVo => t.1 = 2) (mkV r q L vo) F X) (hV : VOk vo (x :: R)) (hs : ∀ y, X = some y → y.2 = x.2) : Rx r q L (fun t : KRf × KMc × KVt × KVo => t.1 = 2) vo.kinds N F (X.map (fun y => y :: R)) := by
  rcases h with ⟨y, z, rfl, rfl, h1, h2⟩ | ⟨t, rfl, rfl, h1⟩
  · exact Or.inl ⟨_, _, _, rfl, rfl, h1, hV.vs (hs y rfl), rfl, h2⟩
  · exact Rx.no h1
set_option maxRecDepth 20000 in
theorem tl_ar {t i s : Nat} (h : t ≤ i - s + 1) (hs : s ≤ i) : t + s ≤ i + 1 := by omega
section ONE
variable {fu g s e i : Nat} {f : Nat → Int32} {r n L : Int} {C : KCo} {Ct : KCt} {W1 : KW1} {W3 : KW3} {Wj : KWj} {W5 : KW5} {W6 : KW6} {M1 : KM1} {Mp : KMp} {M3 : KM3} {Mj : KMj} {Ml : KMl} {M5 : KM5} {M6 : KM6} {pos : Nat → Int} {stk : Nat → List Nat} {F : SS} {bt : KBt} {bo : KBo} {z : KVt} {vo : KVo}
set_option maxRecDepth 20000 in
theorem v_one (hfu : 60 < fu) (hM : MOk W1 W3 M1 Mp M3) (hg : (g : Int) < M3.functions) (hLo : LOk Wj Mj Ml g) (h5 : R5 W5 M5) (h6 : R6 W6 M6)
    (hPD : PD f C.ops C.extras C.labels C.values C.labelCount s e pos) (hSK : SK C.ops C.ends C.elses s e stk) (hste : stk e = []) (hlc : C.labelCount ≤ 2000) (hs : s ≤ i) (hie : i < e) (he : e < 2000) (hpe : pos e < L) (hL : L ≤ 2000) (hI : VI M1 M3 g s C stk i F bt bo z vo) :
    (∃ F' ct bt' bo' z' vo', stAt M1 Mp M3 Mj Ml M5 M6 g C stk i F = some F' ∧ f_BV_check fu C Ct W1 W3 Wj W5 W6 (KBV.mk (g : Int) false) bt bo (C.ops i) i = .ret (ct, KBV.mk (g : Int) false, bt', bo') ∧ CtS Ct i (C.ops i) (C.values i) (C.extras i) C.labels (stk i) ct F' ∧ (∀ n1, L62_Mo_validCode fu (KMt.mk f n) M1 Mp M3 Mj Ml M5 M6 (g : Int) (n1 + 1) r (KMc.mk (pos i) L) z vo = L62_Mo_validCode fu (KMt.mk f n) M1 Mp M3 Mj Ml M5 M6 (g : Int) n1 r (KMc.mk (pos (i + 1)) L) z' vo') ∧ VI M1 M3 g s C stk (i + 1) F' bt' bo' z' vo') ∨
    (stAt M1 Mp M3 Mj Ml M5 M6 g C stk i F = none ∧ (∃ ct bt' bo', f_BV_check fu C Ct W1 W3 Wj W5 W6 (KBV.mk (g : Int) false) bt bo (C.ops i) i = .ret (ct, KBV.mk (g : Int) true, bt', bo')) ∧ ∀ n1, ∃ t, L62_Mo_validCode fu (KMt.mk f n) M1 Mp M3 Mj Ml M5 M6 (g : Int) (n1 + 1) r (KMc.mk (pos i) L) z vo = .thr t ∧ t.1 = 2) := by
  obtain ⟨hT, hB, hO, hS, hV, hK, hlen, hsig, htot⟩ := hI
  obtain ⟨p0, p1, p2, p3, p4, p5⟩ := hPD i hs hie
  have hpL : pos (i + 1) ≤ L := by
    by_cases c : i + 1 = e
    · rw [c]; omega
    · have := hPD.lt' (show s ≤ i + 1 by omega) (show i + 1 < e by omega) (Nat.le_refl _); omega
  obtain ⟨m1, m2, m3, m4, m5⟩ := hSK.mem (i - s) i (by omega) (by omega)
  obtain ⟨s1, s2, s3, s4, s5⟩ := hSK.2.1 i hs hie
  have hdep : 0 < vo.depth := by rw [hV.2.1]; omega
  cases F with
  | nil => rw [List.length_nil] at hlen; omega
  | cons x R =>
    rw [List.length_cons] at hlen
    have hRl : R.length = (stk i).length := by omega
    apply Classical.byContradiction
    intro hng
    -- class and reference put together
    have join : ∀ (o : Int) (stk' : List Nat) (kd : Nat → Int) (X : Option SS), C.ops i = o → o ≠ 11 → stk (i + 1) = stk' → stAt M1 Mp M3 Mj Ml M5 M6 g C stk i (x :: R) = X → Cx g (i - s + 1) stk' (CtS Ct i o (C.values i) (C.extras i) C.labels (stk i)) (f_BV_check fu C Ct W1 W3 Wj W5 W6 (KBV.mk (g : Int) false) bt bo o i) X → Rx r (pos (i + 1)) L (fun t : KRf × KMc × KVt × KVo => t.1 = 2) kd (i - s + 1) (f_Mo_validStep fu r (KMc.mk (pos i + 1) L) z vo (g : Int) (KMt.mk f n) M1 Mp M3 Mj Ml M5 M6 o) X → KDr kd C.ops C.elses (i + 1) stk' → False := by
      intro o stk' kd X ho h11 hst hX hc hr hkd
      subst ho
      have vc : ∀ n1, L62_Mo_validCode fu (KMt.mk f n) M1 Mp M3 Mj Ml M5 M6 (g : Int) (n1 + 1) r (KMc.mk (pos i) L) z vo = _ := fun n1 => vc_op (n1 := n1) hdep p0 (by omega) hL p3 h11
      rcases hc with ⟨F', ct, bt', bo', c1, c2, c3, c4, c5, c6, c7⟩ | ⟨ct, bt', bo', c1, c2⟩
      · rcases hr with ⟨F2, z', vo', d1, d2, d3, d4, d5, d6⟩ | ⟨t, d1, _⟩
        · have : F2 = F' := by rw [c1] at d1; cases d1; rfl
          subst this
          refine hng (Or.inl ⟨F2, ct, bt', bo', z', vo', hX.trans c1, c2, c7, fun n1 => ?_, c3, c4, by rw [hst]; exact c5, d3, d4, by rw [hst, d5]; exact hkd, ?_, ?_, by omega⟩)
          · rw [vc n1, d2, obind2_ret]
          · have := stV_sig (hX.trans c1)
            have e1 := congrArg List.length this
            rw [sig_len] at e1
            rw [e1]
            by_cases q1 : isOp (C.ops i)
            · rw [if_pos q1, List.length_cons, sig_len, List.length_cons, s1 q1, List.length_cons]; omega
            · rw [if_neg q1, if_neg h11, sig_len, List.length_cons]
              by_cases q5 : C.ops i = 5
              · obtain ⟨o9, t9, b1, b2, _⟩ := s3 q5; rw [b2]; omega
              · rw [s4 q1 h11 q5]; omega
          · have := stV_sig (hX.trans c1)
            rw [this]
            by_cases q1 : isOp (C.ops i)
            · rw [if_pos q1]
              have : sig (x :: R) ≠ [] := fun w => by cases w
              rw [List.getLast?_cons_of_ne_nil this]
              exact hsig
            · rw [if_neg q1, if_neg h11]; exact hsig
        · rw [c1] at d1; cases d1
      · rcases hr with ⟨F2, z', vo', d1, _⟩ | ⟨t, d1, d2, d3⟩
        · rw [c1] at d1; cases d1
        · refine hng (Or.inr ⟨hX.trans c1, ⟨ct, bt', bo', c2⟩, fun n1 => ?_⟩)
          rw [vc n1, d2, obind2_thr]
          exact ⟨_, rfl, d3⟩
    have hN : i - s < 2000 := by omega
    have htn : tot (x :: R) ≤ i - s := by omega
    have hi : i < 2000 := by omega
    have hR100 : ∀ h : isOp (C.ops i), R.length < 100 := fun h => by
      have := s5
      rw [s1 h, List.length_cons] at this
      omega
    have kdPlain : C.ops i ≠ 5 → stk (i + 1) = stk i → KDr vo.kinds C.ops C.elses (i + 1) (stk i) := fun h5 _ => KDr.cg _ (fun _ _ => rfl) (fun o ho => hSK.el_ne h5 (m1 o ho).1 (by have := (m1 o ho).2.1; omega) (m1 o ho).2.2) hK
    have stk0 : ¬ isOp (C.ops i) → C.ops i ≠ 11 → C.ops i ≠ 5 → stk (i + 1) = stk i := s4
    have ctl : ∀ o, o ≤ 16 → C.ops i = o → f_BV_check fu C Ct W1 W3 Wj W5 W6 (KBV.mk (g : Int) false) bt bo o i = f_BV_checkControl fu C Ct W1 W3 (KBV.mk (g : Int) false) bt bo o i := fun o h _ => ck_ctl (Or.inr h)
    generalize ho : C.ops i = o at *
    have eSt : stAt M1 Mp M3 Mj Ml M5 M6 g C stk i (x :: R) = stV M1 Mp M3 Mj Ml M5 M6 g C.labels (k4p C (stk i)) o (C.values i) (C.extras i) (x :: R) := by show stV M1 Mp M3 Mj Ml M5 M6 g C.labels (k4p C (stk i)) (C.ops i) (C.values i) (C.extras i) (x :: R) = _; rw [ho]
    by_cases c0 : o = 0
    · subst c0
      have es := stk0 (by omega) (by decide) (by decide)
      refine join 0 (stk i) vo.kinds _ rfl (by decide) es eSt ?_ ?_ (kdPlain (by decide) es)
      · rw [ctl 0 (by decide) rfl]
        exact c_c0 hB hT hO htn
      · exact r_c0 p5 hV hS htn
    by_cases c1 : o = 1
    · subst c1
      have es := stk0 (by omega) (by decide) (by decide)
      refine join 1 (stk i) vo.kinds _ rfl (by decide) es eSt ?_ ?_ (kdPlain (by decide) es)
      · rw [ctl 1 (by decide) rfl]
        exact c_c1 hB hT hO htn
      · exact r_c1 p5 hV hS htn
    have kdOpn : ∀ kd', kd' = updZ vo.kinds (x :: R).length o → isOp o → KDr kd' C.ops C.elses (i + 1) (i :: stk i) := by
      rintro _ rfl hop
      refine ⟨?_, KDr.cg _ (fun k hk => updZ_n (by rw [List.length_cons]; omega)) (fun o' ho' => hSK.el_ne (by omega) (m1 o' ho').1 (by have := (m1 o' ho').2.1; omega) (m1 o' ho').2.2) hK⟩
      rw [show (stk i).length + 1 = (x :: R).length by rw [List.length_cons]; omega, updZ_s]
      rw [if_neg ?_, ho]
      rintro ⟨w1, w2, w3⟩
      rcases (hSK.2.2.1 i hs hie (by rw [ho]; exact hop)).1 with q | ⟨y, q1, q2, _⟩
      · omega
      · omega
    by_cases c23 : o = 2 ∨ o = 3
    · have hop : isOp o := by omega
      obtain ⟨d1, d2, d3⟩ := p5.1 (by omega)
      refine join o (i :: stk i) _ _ rfl (by omega) (s1 hop) eSt ?_ ?_ (kdOpn _ rfl hop)
      · rw [ctl o (by omega) rfl]
        unfold stV
        dsimp only
        rw [if_neg c0, if_neg c1, if_pos c23]
        exact c_c2 c23 hi rfl d3 hB (by omega) (hR100 hop) hT hO htn
      · unfold stV
        dsimp only
        rw [if_neg c0, if_neg c1, if_pos c23]
        exact r_c2 c23 p5 (by omega) hpL hL hV (hR100 hop) hS htn
    by_cases c4 : o = 4
    · have hop : isOp o := by omega
      subst c4
      obtain ⟨d1, d2, d3⟩ := p5.1 (by omega)
      refine join 4 (i :: stk i) _ _ rfl (by omega) (s1 hop) eSt ?_ ?_ (kdOpn _ rfl hop)
      · rw [ctl 4 (by omega) rfl]
        unfold stV
        dsimp only
        rw [if_neg c0, if_neg c1, if_neg c23, if_pos rfl]
        exact c_c4 hi rfl d3 hB (by omega) (hR100 hop) hT hO htn hN
      · unfold stV
        dsimp only
        rw [if_neg c0, if_neg c1, if_neg c23, if_pos rfl]
        exact r_c4 p5 (by omega) hpL hL hV (hR100 hop) hS htn hN
    by_cases c5 : o = 5
    · subst c5
      obtain ⟨o9, t9, b1, b2, b3, b4, b5⟩ := s3 rfl
      refine join 5 (stk i) _ _ rfl (by omega) b2 eSt ?_ ?_ (?_ : KDr (updZ vo.kinds R.length 5) C.ops C.elses (i + 1) (stk i))
      · rw [ctl 5 (by omega) rfl]
        unfold stV
        dsimp only
        rw [if_neg c0, if_neg c1, if_neg c23, if_neg c4, if_pos rfl]
        exact c_c5 hB hT hO htn hN
      · unfold stV
        dsimp only
        rw [if_neg c0, if_neg c1, if_neg c23, if_neg c4, if_pos rfl]
        exact r_c5 p5 hV hS htn hN
      · rw [b1] at hK m1 m2 ⊢
        rw [b1, List.length_cons] at hRl
        obtain ⟨w1, w2⟩ := hK
        refine ⟨?_, KDr.cg _ (fun k hk => updZ_n (by omega)) (fun o' ho' => ?_) w2⟩
        · rw [← hRl, updZ_s, if_pos ⟨b4, by rw [b5]; omega, by rw [b5]; omega⟩]
        · obtain ⟨a1, a2, a3⟩ := m1 o' (List.mem_cons_of_mem _ ho')
          rcases (hSK.2.2.1 o' a1 (by omega) a3).1 with q | ⟨y, q1, q2, q3, q4, q5, q6⟩
          · rw [q]; constructor <;> intro p <;> omega
          · have : y ≠ i := by
              intro w9
              rw [w9, b1] at q6
              have e9 := (List.cons.inj q6).1
              exact m2 o9 t9 rfl (by rw [e9]; exact ho')
            rw [q1]; constructor <;> intro p <;> omega
    by_cases c11 : o = 11
    · subst c11
      obtain ⟨o9, t9, b1, b2, b3, b4, b5⟩ := s2 rfl
      rw [b1, List.length_cons] at hRl
      have ho9 := m1 o9 (by rw [b1]; exact List.mem_cons_self)
      cases R with
      | nil => rw [List.length_nil] at hRl; omega
      | cons w R' =>
        rw [List.length_cons] at hRl
        have hk4 : k4p C (stk i) ↔ (C.ops o9 = 4 ∧ C.elses o9 < 0) := by
          rw [b1]
          exact ⟨fun q => q.2, fun q => ⟨fun h => (by cases h), q⟩⟩
        obtain ⟨q1, q2⟩ := hSK.2.2.1 o9 ho9.1 (by omega) ho9.2.2
        obtain ⟨e9, u1, u2, u3, u4, u5, u6⟩ := q2 (by rw [hste]; exact fun h => by cases h)
        have he9 : e9 = i := by rw [b5] at u1; omega
        have hkd : vo.kinds (w :: R').length = 4 ↔ (C.ops o9 = 4 ∧ C.elses o9 < 0) := by
          rw [b1] at hK
          obtain ⟨w1, w2⟩ := hK
          rw [List.length_cons, show R'.length + 1 = t9.length + 1 by omega, w1]
          by_cases c : C.ops o9 = 4 ∧ 0 ≤ C.elses o9 ∧ C.elses o9 < (i : Int)
          · rw [if_pos c]; constructor <;> intro p <;> omega
          · rw [if_neg c]
            constructor
            · intro p
              refine ⟨p, ?_⟩
              rcases q1 with q | ⟨y, j1, _⟩
              · omega
              · have := (u6 y j1).1
                have : ¬ (0 ≤ C.elses o9 ∧ C.elses o9 < (i : Int)) := fun z => c ⟨p, z⟩
                omega
            · intro p; exact p.1
        have hC := c_c11 (fu := fu) (W1 := W1) (W3 := W3) (g := g) (i := i) (Ct := Ct) (lab := C.labels) (v := C.values i) (e := C.extras i) (C := C) (k4 := k4p C (stk i)) b1 rfl (show t9.length = R'.length by omega) (by omega) hk4 hB hT hO htn hN
        have eX : stAt M1 Mp M3 Mj Ml M5 M6 g C stk i (x :: w :: R') = (popO x.2.2.2 x).bind (fun y => if y.1 = [] ∧ (k4p C (stk i) → x.2.2.2 = 0) then some (pushA x.2.2.2 w :: R') else none) := by
          rw [eSt]
          unfold stV
          dsimp only
          rw [if_neg c0, if_neg c1, if_neg c23, if_neg c4, if_neg c5, if_pos rfl]
        have hE := vc_end (fu := fu) (f := f) (r := r) (n := n) (M1 := M1) (Mp := Mp) (M3 := M3) (Mj := Mj) (Ml := Ml) (M5 := M5) (M6 := M6) (g := g) p0 (show pos i < L by omega) hL p3 hV hS htn hN
        have hq1 : pos (i + 1) = pos i + 1 := p5.2.2.2.2.2.2.2 (by omega)
        apply hng
        rw [ctl 11 (by omega) rfl, eX]
        rcases hE with ⟨y, z', f1, f2, f3, f4, f5⟩ | ⟨f1, f2⟩
        · have hk0 : k4p C (stk i) → x.2.2.2 = 0 := fun q => f3 (hkd.mpr (hk4.mp q))
          rw [f1] at hC ⊢
          dsimp only [Option.bind] at hC ⊢
          rw [if_pos ⟨f2, hk0⟩] at hC ⊢
          rcases hC with ⟨F', ct, bt', bo', d1, d2, d3, d4, d5, d6, d7⟩ | ⟨ct, bt', bo', d1, d2⟩
          · cases d1
            refine Or.inl ⟨_, ct, bt', bo', z', _, rfl, d2, d7, fun n1 => by rw [hq1]; exact f4 n1, d3, d4, by rw [b2]; exact d5, (f5 w R' rfl).1, ?_, ?_, ?_, ?_, tl_ar d6 hs⟩
            · have h8 := hV.2.1
              have h9 := hV.2.2
              rw [List.length_cons, List.length_cons] at h8 h9
              have b0 : VOk (KVo.mk vo.heights vo.labels vo.outs vo.kinds vo.lost (vo.depth - 1)) (w :: R') := ⟨ROr.cg (vo := vo) _ (fun k hk => ⟨rfl, rfl, rfl, rfl⟩) hV.1.2.2.2.2.2.2, by show vo.depth - 1 = _; rw [List.length_cons]; omega, by rw [List.length_cons]; omega⟩
              exact b0.vs push_snd
            · rw [b2]
              rw [b1] at hK
              exact KDr.cg _ (fun _ _ => rfl) (fun o' ho' => by
                obtain ⟨a1, a2, a3⟩ := m1 o' (by rw [b1]; exact List.mem_cons_of_mem _ ho')
                exact hSK.el_ne (by omega) a1 (by omega) a3) hK.2
            · rw [b2, List.length_cons]; omega
            · have e1 : sig (pushA x.2.2.2 w :: R') = sig (w :: R') := by show (pushA x.2.2.2 w).2.2 :: sig R' = w.2.2 :: sig R'; rw [push_snd]
              rw [e1, ← hsig]
              show _ = (x.2.2 :: sig (w :: R')).getLast?
              rw [List.getLast?_cons_of_ne_nil (fun h => by cases h)]
          · cases d1
        · have eN : ((popO x.2.2.2 x).bind (fun y => if y.1 = [] ∧ (k4p C (stk i) → x.2.2.2 = 0) then some (pushA x.2.2.2 w :: R') else none)) = none := by
            cases ep : popO x.2.2.2 x with
            | none => rfl
            | some y =>
              dsimp only [Option.bind]
              rw [if_neg (fun q => f1 ⟨y, ep, q.1, fun q2 => q.2 (hk4.mpr (hkd.mp q2))⟩)]
          rw [eN] at hC ⊢
          rcases hC with ⟨F', ct, bt', bo', d1, _⟩ | ⟨ct, bt', bo', d1, d2⟩
          · cases d1
          · exact Or.inr ⟨rfl, ⟨ct, bt', bo', d2⟩, f2⟩
    by_cases c12 : o = 12
    · subst c12
      obtain ⟨d1, d2, d3⟩ := p5.2.1 (by omega)
      have es := stk0 (by omega) (by decide) (by decide)
      refine join 12 (stk i) vo.kinds _ rfl (by decide) es eSt ?_ ?_ (kdPlain (by decide) es)
      · rw [ctl 12 (by omega) rfl]
        unfold stV
        dsimp only
        rw [if_neg c0, if_neg c1, if_neg c23, if_neg c4, if_neg c5, if_neg c11, if_pos rfl]
        exact c_c12 hi rfl d2 d3 hRl.symm hB hT hO htn hN
      · unfold stV
        dsimp only
        rw [if_neg c0, if_neg c1, if_neg c23, if_neg c4, if_neg c5, if_neg c11, if_pos rfl]
        exact r_c12 (by omega) p5 hpL hL hV hS htn hN
    by_cases c13 : o = 13
    · subst c13
      obtain ⟨d1, d2, d3⟩ := p5.2.1 (by omega)
      have es := stk0 (by omega) (by decide) (by decide)
      refine join 13 (stk i) vo.kinds _ rfl (by decide) es eSt ?_ ?_ (kdPlain (by decide) es)
      · rw [ctl 13 (by omega) rfl]
        unfold stV
        dsimp only
        rw [if_neg c0, if_neg c1, if_neg c23, if_neg c4, if_neg c5, if_neg c11, if_neg c12, if_pos rfl]
        exact c_c13 hi rfl d2 d3 hRl.symm hB hT hO htn hN
      · unfold stV
        dsimp only
        rw [if_neg c0, if_neg c1, if_neg c23, if_neg c4, if_neg c5, if_neg c11, if_neg c12, if_pos rfl]
        exact r_c13 (by omega) p5 hpL hL hV hS htn hN
    by_cases c14 : o = 14
    · subst c14
      obtain ⟨nn, ll, q1, d1, d2, d3, d4, d5, d6⟩ := p5.2.2.1 rfl
      have es := stk0 (by omega) (by decide) (by decide)
      have hlabs : ∀ (m l : Nat) (a : Int), Lbl f C.labels m l a (pos (i + 1)) → ∀ k : Nat, l ≤ k → k < l + m → 0 ≤ C.labels k ∧ C.labels k ≤ 2147483647 := by
        intro m
        induction m with
        | zero => intro l a _ k h1 h2; omega
        | succ m ih =>
          intro l a h k h1 h2
          obtain ⟨b, j1, j2, j3, j4⟩ := h
          by_cases hk : k = l
          · subst hk; exact ⟨j2, j3⟩
          · exact ih (l + 1) b j4 k (by omega) (by omega)
      refine join 14 (stk i) vo.kinds _ rfl (by decide) es eSt ?_ ?_ (kdPlain (by decide) es)
      · rw [ctl 14 (by omega) rfl]
        unfold stV
        dsimp only
        rw [if_neg c0, if_neg c1, if_neg c23, if_neg c4, if_neg c5, if_neg c11, if_neg c12, if_neg c13, if_pos rfl]
        exact c_c14 hfu hi rfl rfl rfl d3 d2 d4 (by omega) (hlabs _ _ _ d6) hRl.symm hB hT hO htn hN
      · unfold stV
        dsimp only
        rw [if_neg c0, if_neg c1, if_neg c23, if_neg c4, if_neg c5, if_neg c11, if_neg c12, if_neg c13, if_pos rfl]
        exact r_c14 hfu p5 hpL hL hV hS htn hN
    by_cases c15 : o = 15
    · subst c15
      have es := stk0 (by omega) (by decide) (by decide)
      refine join 15 (stk i) vo.kinds _ rfl (by decide) es eSt ?_ ?_ (kdPlain (by decide) es)
      · rw [ctl 15 (by omega) rfl]
        unfold stV
        dsimp only
        rw [if_neg c0, if_neg c1, if_neg c23, if_neg c4, if_neg c5, if_neg c11, if_neg c12, if_neg c13, if_neg c14, if_pos rfl]
        exact c_c15 hM hg hB hT hO htn hN
      · unfold stV
        dsimp only
        rw [if_neg c0, if_neg c1, if_neg c23, if_neg c4, if_neg c5, if_neg c11, if_neg c12, if_neg c13, if_neg c14, if_pos rfl]
        exact r_c15 hM hg (ROr_bot _ _ hsig hV.1) p5 hV hS htn hN
    have hopk : opk o := by clear hng join s1 s2 s3 s4; omega
    have es := stk0 (by omega) (by omega) (by omega)
    refine join o (stk i) vo.kinds _ rfl c11 es eSt ?_ ?_ (kdPlain (by omega) es)
    · unfold stV
      dsimp only
      rw [if_neg c0, if_neg c1, if_neg c23, if_neg c4, if_neg c5, if_neg c11, if_neg c12, if_neg c13, if_neg c14, if_neg c15]
      obtain ⟨G, g1, g2⟩ := c_op (fu := fu) (Ct := Ct) (by omega) hi hM hg hLo h5 h6 hopk p5 hB hT htn hN
      rw [g1]
      exact g2.toX hB hO (fun y hy => op_snd hy) (fun F => CtS.rf (by omega) c12 c13 c14)
    · unfold stV
      dsimp only
      rw [if_neg c0, if_neg c1, if_neg c23, if_neg c4, if_neg c5, if_neg c11, if_neg c12, if_neg c13, if_neg c14, if_neg c15]
      exact (r_op (by omega) hM hg hLo h6 hopk p5 (by omega) (by omega) hpL hL hV hS htn hN).toX hV (fun y hy => op_snd hy)
end ONE
