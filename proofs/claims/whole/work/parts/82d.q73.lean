/-! RUN: numbers in step -/
section SNM
variable {fu g0 g i b lt h : Nat} {f : Nat → Int32} {n sp r : Int} {C : KCo} {M : KMe} {W1 : KW1} {W3 : KW3} {Wj : KWj} {W5 : KW5} {M1 : KM1} {Mp : KMp} {M3 : KM3} {Mj : KMj} {Ml : KMl} {M5 : KM5} {M6 : KM6} {ct : KCt} {X : SP} {R : List (Nat × Nat × Nat)} {af : KAf} {rr : KRr} {rl : KRl} {st vs : Nat → Int64} {mb : KMb} {ag : KAg} {my : KMy} {rg : KRg}
set_option maxRecDepth 20000 in
theorem ms_num {mc : KMc} {rs : KRs} {t : KMt} {o a : Int} (ho : numo o) : f_Mo_step fu r mc my rg rs rr rl t M1 M3 Mj M5 M o a = obind2 (f_Mo_numbers fu r rs o) (fun x => .ret (x.1, mc, my, rg, x.2, rr, rl, true)) (fun x => .thr (x.1, mc, my, rg, x.2, rr, rl)) := by
  unfold f_Mo_step
  simp only [jp]
  repeat (first | rw [if_neg (by omega)] | rw [if_pos (by omega)])
set_option maxRecDepth 20000 in
theorem tk_cv {as : KAs} {o nx a : Int} (h0 : 0 ≤ sp) (h1 : sp + 1 ≤ 100000) (ho : 138 < o) (hpos : 0 < h) (hh : h ≤ 12096) : f_Ma_takeStep fu C ct W1 W3 Wj W5 mb ag (KMa.mk sp 0 nx) (KAs.mk st h) af o a = obind (f_Ma_push (KMa.mk (sp + 1) 0 nx) (KAs.mk st ((h - 1 : Nat) : Int)) (if o = 173 then st (h - 1) &&& 4294967295 else (st (h - 1)).toInt32.toInt64)) (fun x => .ret (mb, ag, x.1, x.2, af)) := by
  unfold f_Ma_takeStep
  simp only [jp]
  rw [if_pos (show R32 ((KMa.mk sp 0 nx).steps + 1) by show R32 (sp + 1); omega), if_pos (show (KMa.mk sp 0 nx).steps + 1 ≤ 100000 from h1), if_pos (show 16 < o by omega), if_pos (show 36 < o by omega), if_pos (show 64 < o by omega), if_pos (show 66 < o by omega), if_pos (show 90 < o by omega), if_pos (show 120 < o by omega), if_pos ho, cm_pop hpos hh, obind_ret]
  by_cases c : o = 173
  · rw [if_pos c, if_pos c]
  · rw [if_neg c, if_neg c]
set_option maxRecDepth 20000 in
theorem StI.t1 (hS : StI X M1 Mp M3 Mj Ml g0 g i b R lt h af rr rl st vs) {x : Fr} {R0 : SS} (e : X.F g i = x :: R0) {t : Int} {l : List Int} (hx : x.1 = t :: l) : 0 < h ∧ (t = 127 → R32 (st (h - 1)).toInt) := by
  obtain ⟨x', R', q1, q2, q3, q4⟩ := hS.1.vals
  have hf : flat (x :: R0) = t :: (l ++ flat R0) := by show x.1 ++ flat R0 = _; rw [hx]; rfl
  have ht : tot (x :: R0) = (l ++ flat R0).length + 1 := by show (flat (x :: R0)).length = _; rw [hf, List.length_cons]
  rw [e] at q3 q4
  rw [hf] at q4
  refine ⟨by omega, fun q => ?_⟩
  rw [show h - 1 = b + nv M1 M3 Mj g + (l ++ flat R0).length by omega]
  exact q4.1 q
set_option maxRecDepth 20000 in
theorem StI.t2 (hS : StI X M1 Mp M3 Mj Ml g0 g i b R lt h af rr rl st vs) {x : Fr} {R0 : SS} (e : X.F g i = x :: R0) {t u : Int} {l : List Int} (hx : x.1 = t :: u :: l) : 1 < h ∧ (t = 127 → R32 (st (h - 1)).toInt) ∧ (u = 127 → R32 (st (h - 2)).toInt) := by
  obtain ⟨x', R', q1, q2, q3, q4⟩ := hS.1.vals
  have hf : flat (x :: R0) = t :: u :: (l ++ flat R0) := by show x.1 ++ flat R0 = _; rw [hx]; rfl
  have ht : tot (x :: R0) = (l ++ flat R0).length + 1 + 1 := by show (flat (x :: R0)).length = _; rw [hf, List.length_cons, List.length_cons]
  rw [e] at q3 q4
  rw [hf] at q4
  refine ⟨by omega, fun q => ?_, fun q => ?_⟩
  · rw [show h - 1 = b + nv M1 M3 Mj g + (u :: (l ++ flat R0)).length by rw [List.length_cons]; omega]
    exact q4.1 q
  · rw [show h - 2 = b + nv M1 M3 Mj g + (l ++ flat R0).length by omega]
    exact q4.2.1 q
set_option maxRecDepth 20000 in
theorem s_num (hfu : 100 < fu) (hX : CX f n C M W1 W3 Wj W5 M1 Mp M3 Mj Ml M5 M6 ct X) (hS : StI X M1 Mp M3 Mj Ml g0 g i b R lt h af rr rl st vs) (hm : MR M6 mb ag my rg) (hi : i < X.e g) (h0 : 0 ≤ sp) (h1 : sp + 1 ≤ 100000) (ho : numo (C.ops i)) : SR X M1 Mp M3 Mj Ml M6 n g0 (sp + 1) lt r (f_Ma_takeStep fu C ct W1 W3 Wj W5 mb ag (KMa.mk sp 0 ((i + 1 : Nat) : Int)) (KAs.mk st h) af (C.ops i) i) (f_Mo_step fu r (KMc.mk (X.p g i + 1) n) my rg (KRs.mk vs h) rr rl (KMt.mk f n) M1 M3 Mj M5 M (C.ops i) (X.p g i)) := by
  obtain ⟨x, y, R0, e1, e2, e3, e4, e5, e6, e7⟩ := hS.op hX hi (by omega)
  obtain ⟨d1, d2, d3, d4, d5, d6, d7⟩ := hS.dec hX hi
  have hp : X.p g i + 1 = X.p g (i + 1) := (d7.2.2.2.2.2.2.2 (by omega)).symm
  have hn := hX.2.2.2.2.1
  have hh := hS.2.2.2.2.2.2.2.1
  have ha := hS.2.2.2.2.2.2.2.2.1
  have e3' : numA (nIn (C.ops i)) (nOut (C.ops i)) (nOne (C.ops i)) x = some y := by
    unfold opF at e3
    rw [if_neg (by omega), if_neg (by omega), if_neg (by omega), if_neg (by omega), if_neg (by omega), if_neg (by omega), if_neg (by omega), if_neg (by omega), if_neg (by omega), if_neg (by omega), if_neg (by omega), if_neg (by omega), if_neg (by omega)] at e3
    exact e3
  rw [ms_num ho]
  generalize C.ops i = o at ho e3' ⊢
  have hin := nIn_ty o
  have hout := nOut_ty o
  by_cases one : o = 69 ∨ o = 80 ∨ (103 ≤ o ∧ o ≤ 105) ∨ (121 ≤ o ∧ o ≤ 123) ∨ 167 ≤ o
  · rw [show nOne o = true from decide_eq_true one] at e3'
    obtain ⟨y1, l', y2, x1⟩ := num1 e3' e4 hin hout
    obtain ⟨hpos, ht⟩ := hS.t1 e1 x1
    have hvs := ha (h - 1) (by omega)
    by_cases c : o = 69 ∨ o = 80
    · refine sr_push (h' := h - 1) (l := [nIn o]) (l' := l') (t := nOut o) (v := if st (h - 1) = 0 then 1 else 0) (v' := if st (h - 1) = 0 then 1 else 0) hS e1 hi e5 e2 y1 x1 y2 rfl (fun _ => by split <;> decide) rfl hp hm ?_ ?_
      · rw [tk_cmp h0 h1 (by omega) (by omega), cm_c1 c hpos hh]
      · rw [nm_c1 c hpos hh, hvs]
    by_cases c2 : 103 ≤ o ∧ o ≤ 105
    · obtain ⟨w, k1, k2, k3⟩ := cnt32 hfu (k := o) (by omega) (st (h - 1)).toInt32
      refine sr_push (h' := h - 1) (l := [nIn o]) (l' := l') (t := nOut o) (v := (sI w).toInt64) (v' := (sI w).toInt64) hS e1 hi e5 e2 y1 x1 y2 rfl (fun _ => r32_i _) rfl hp hm ?_ ?_
      · rw [tk_int h0 h1 (by omega) (by omega), cm_k32 c2 hpos hh k2]
      · rw [nm_k32 c2 hpos hh (by rw [hvs]; exact k3)]
    by_cases c3 : 121 ≤ o ∧ o ≤ 123
    · obtain ⟨w, k1, k2, k3⟩ := cnt64 hfu (k := o - 18) (by omega) (st (h - 1))
      refine sr_push (h' := h - 1) (l := [nIn o]) (l' := l') (t := nOut o) (v := (sI w).toInt64) (v' := (sI w).toInt64) hS e1 hi e5 e2 y1 x1 y2 rfl (fun _ => r32_i _) rfl hp hm ?_ ?_
      · rw [tk_lng h0 h1 (by omega) (by omega), cm_k64 (by omega) hpos hh k2]
      · rw [nm_k64 c3 hpos hh (by rw [hvs]; exact k3)]
    have c4 : o = 167 ∨ o = 172 ∨ o = 173 := by omega
    have hvv : (if o = 167 then (vs (h - 1)).toInt32.toInt64 else if o = 172 then vs (h - 1) else vs (h - 1) &&& 4294967295) = (if o = 173 then st (h - 1) &&& 4294967295 else (st (h - 1)).toInt32.toInt64) := by
      rw [hvs]
      rcases c4 with c4 | c4 | c4
      · rw [if_pos c4, if_neg (by omega)]
      · have hni : nIn o = 127 := if_pos (by omega)
        rw [if_neg (by omega), if_pos c4, if_neg (by omega), r_id (ht hni)]
      · rw [if_neg (by omega), if_neg (by omega), if_pos c4]
    refine sr_push (h' := h - 1) (l := [nIn o]) (l' := l') (t := nOut o) (v := if o = 173 then st (h - 1) &&& 4294967295 else (st (h - 1)).toInt32.toInt64) (v' := if o = 173 then st (h - 1) &&& 4294967295 else (st (h - 1)).toInt32.toInt64) hS e1 hi e5 e2 y1 x1 y2 rfl (fun q => ?_) rfl hp hm ?_ ?_
    · by_cases c5 : o = 167
      · rw [if_neg (by omega)]; exact r32_i _
      · have : nOut o = 126 := by unfold nOut; rw [if_neg (by omega), if_pos (by omega)]
        omega
    · rw [tk_cv (as := KAs.mk st h) h0 h1 (by omega) hpos hh]
    · rw [nm_v c4 hpos hh, hvv]
  · rw [show nOne o = false from decide_eq_false one] at e3'
    obtain ⟨y1, l', y2, x1⟩ := num2 e3' e4 hin hout
    obtain ⟨hpos, ht1, ht2⟩ := hS.t2 e1 x1
    have hvs := ha (h - 1) (by omega)
    have hvs2 := ha (h - 2) (by omega)
    by_cases c : (70 ≤ o ∧ o ≤ 79) ∨ (81 ≤ o ∧ o ≤ 90)
    · obtain ⟨t, k1, _⟩ := cmpd (k := if o < 80 then o else o - 11) (by split <;> omega) (st (h - 2)) (st (h - 1)) true
      have k2 : ∀ small : Bool, f_Mo_compared (if o < 80 then o else o - 11) (vs (h - 2)) (vs (h - 1)) small = .ret (if t = true then 1 else 0) := fun small => by
        rw [hvs, hvs2]
        obtain ⟨t', k3, k4⟩ := cmpd (k := if o < 80 then o else o - 11) (by split <;> omega) (st (h - 2)) (st (h - 1)) small
        rw [k1] at k3
        have k5 : t = t' := by cases k3; rfl
        rw [k5]; exact k4
      refine sr_push (h' := h - 2) (l := [nIn o, nIn o]) (l' := l') (t := nOut o) (v := if t = true then 1 else 0) (v' := if t = true then 1 else 0) hS e1 hi e5 e2 y1 x1 y2 rfl (fun _ => by split <;> decide) rfl hp hm ?_ ?_
      · rw [tk_cmp h0 h1 (by omega) (by omega), cm_c2 c hpos hh k1]
      · rw [nm_c2 c hpos hh k2]
    by_cases c2 : o ≤ 120
    · have hni : nIn o = 127 := if_pos (by omega)
      have ea := r_id (ht2 hni)
      have eb := r_id (ht1 hni)
      have c3 : 106 ≤ o ∧ o ≤ 120 := by omega
      rcases wk_I (r := r) (wa := (st (h - 2)).toInt32) (wb := (st (h - 1)).toInt32) c3 with ⟨v, k1, k2, k3⟩ | ⟨q, k0, k1, k2⟩
      · refine sr_push (h' := h - 2) (l := [nIn o, nIn o]) (l' := l') (t := nOut o) (v := v.toInt32.toInt64) (v' := v.toInt32.toInt64) hS e1 hi e5 e2 y1 x1 y2 rfl (fun _ => r32_i _) rfl hp hm ?_ ?_
        · rw [tk_int h0 h1 (by omega) (by omega), cm_b32 c3 hpos hh k1, if_pos rfl, k3, obind_ret]
        · rw [nm_b32 c3 hpos hh, hvs, hvs2]
          rw [ea, eb] at k2
          rw [k2, obind2_ret]
      · refine sr_no (af := af) (c := q) (nx := ((i + 1 : Nat) : Int)) (as := KAs.mk st ((h - 2 : Nat) : Int)) (mc := KMc.mk (X.p g i + 1) n) (rs := KRs.mk vs ((h - 2 : Nat) : Int)) (rr' := rr) (rl' := rl) k0 hm ?_ ?_
        · rw [tk_int h0 h1 (by omega) (by omega), cm_b32 c3 hpos hh k1, if_neg k0, obind_ret]
        · rw [nm_b32 c3 hpos hh, hvs, hvs2]
          rw [ea, eb] at k2
          rw [k2, obind2_thr, obind2_thr]
    · have c3 : 124 ≤ o ∧ o ≤ 138 := by omega
      have hno : nOut o = 126 := by unfold nOut; rw [if_neg (by omega), if_neg (by omega)]; exact if_neg (by omega)
      rcases wk_L (r := r) (k := o - 18) (a := st (h - 2)) (b := st (h - 1)) (by omega) with ⟨v, k1, k2, k3⟩ | ⟨q, k0, k1, k2⟩
      · refine sr_push (h' := h - 2) (l := [nIn o, nIn o]) (l' := l') (t := nOut o) (v := v) (v' := v) hS e1 hi e5 e2 y1 x1 y2 rfl (fun q => by omega) rfl hp hm ?_ ?_
        · rw [tk_lng h0 h1 (by omega) (by omega), cm_b64 (by omega) hpos hh k1, if_pos rfl, k3, obind_ret]
        · rw [nm_b64 c3 hpos hh, hvs, hvs2, k2, obind2_ret]
      · refine sr_no (af := af) (c := q) (nx := ((i + 1 : Nat) : Int)) (as := KAs.mk st ((h - 2 : Nat) : Int)) (mc := KMc.mk (X.p g i + 1) n) (rs := KRs.mk vs ((h - 2 : Nat) : Int)) (rr' := rr) (rl' := rl) k0 hm ?_ ?_
        · rw [tk_lng h0 h1 (by omega) (by omega), cm_b64 (by omega) hpos hh k1, if_neg k0, obind_ret]
        · rw [nm_b64 c3 hpos hh, hvs, hvs2, k2, obind2_thr, obind2_thr]
end SNM
