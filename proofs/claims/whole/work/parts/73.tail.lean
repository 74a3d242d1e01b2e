/-! WORLDS WITH A TAIL: the rows of grids stand behind all other cells and are passed on unseen -/
theorem tl_lt {X w : va_W} {is : List Nat} (h : is.map (fun i => X[i]?) = w.map some) : ∀ i ∈ is, i < X.length := by
  intro i hi
  have h1 : X[i]? ∈ is.map (fun i => X[i]?) := List.mem_map_of_mem (f := fun i => X[i]?) hi
  rw [h] at h1
  obtain ⟨q, _, e⟩ := List.mem_map.mp h1
  exact (List.getElem?_eq_some_iff.mp e.symm).1
theorem tl_map {X pl w : va_W} {is : List Nat} (h : is.map (fun i => X[i]?) = w.map some) : is.map (fun i => (X ++ pl)[i]?) = w.map some := by
  rw [← h]
  exact List.map_congr_left (fun i hi => List.getElem?_append_left (tl_lt h i hi))
def tlR (n m : Nat) : List Nat := (List.range m).map (fun j => n + j)
theorem tl_rng {X pl : va_W} {b : Nat} (hb : X.length = b) : (tlR b pl.length).map (fun i => (X ++ pl)[i]?) = pl.map some := by
  subst hb
  unfold tlR
  rw [List.map_map]
  apply List.ext_getElem?
  intro k
  rw [List.getElem?_map, List.getElem?_map]
  by_cases hk : k < pl.length
  · rw [List.getElem?_range hk, List.getElem?_eq_getElem hk]
    show some ((X ++ pl)[X.length + k]?) = some (some _)
    rw [List.getElem?_append_right (by omega), show X.length + k - X.length = k by omega, List.getElem?_eq_getElem hk]
  · rw [List.getElem?_eq_none (by rw [List.length_range]; omega), List.getElem?_eq_none (by omega)]; rfl
theorem tl_mem {n m i : Nat} (h : i ∈ tlR n m) : n ≤ i ∧ i < n + m := by
  obtain ⟨j, h1, h2⟩ := List.mem_map.mp h
  have := List.mem_range.mp h1
  omega
theorem tl_nd {l : List Nat} (h : l.Nodup) : va_nd l = true := by
  induction l with
  | nil => rfl
  | cons a l ih =>
    obtain ⟨h1, h2⟩ := List.nodup_cons.mp h
    show (decide (a ∉ l) && va_nd l) = true
    rw [decide_eq_true h1, ih h2]; rfl
theorem tl_dn {l : List Nat} (h : va_nd l = true) : l.Nodup := by
  induction l with
  | nil => exact List.nodup_nil
  | cons a l ih =>
    have h : (decide (a ∉ l) && va_nd l) = true := h
    rw [Bool.and_eq_true] at h
    exact List.nodup_cons.mpr ⟨of_decide_eq_true h.1, ih h.2⟩
theorem tl_ndR (n m : Nat) : (tlR n m).Nodup := by
  unfold tlR
  rw [List.nodup_iff_pairwise_ne] at *
  rw [List.pairwise_map]
  exact List.Pairwise.imp (fun h => by omega) (List.nodup_iff_pairwise_ne.mp List.nodup_range)
theorem tl_app {a b : List Nat} (ha : va_nd a = true) (hb : b.Nodup) (hx : ∀ i ∈ a, i ∉ b) : va_nd (a ++ b) = true :=
  tl_nd (List.nodup_append.mpr ⟨tl_dn ha, hb, fun x h1 y h2 e => hx x h1 (e ▸ h2)⟩)
theorem va_P.mid {G : va_G} {cl : List vw_C} {a b c d : va_W} {H : Heap} (h : va_P G cl (a ++ (b ++ (c ++ d))) H) : va_P G cl ((a ++ c) ++ (b ++ d)) H := by
  have h1 : va_P G cl (((a ++ b) ++ c) ++ d) H := by simpa only [List.append_assoc] using h
  have hs : va_P G cl ((a ++ b) ++ c) H := fun k q hk => h1 k q (by rw [List.getElem?_append_left (List.getElem?_eq_some_iff.mp hk).1]; exact hk)
  have hd : va_P G cl d H := fun k q hk => h1 (((a ++ b) ++ c).length + k) q (by rw [List.getElem?_append_right (by omega), show ((a ++ b) ++ c).length + k - ((a ++ b) ++ c).length = k by omega]; exact hk)
  have h2 := (hs.swap).app hd
  simpa only [List.append_assoc] using h2
theorem va_D.mid {A : Nat → Prop} {a b c d : va_W} (h : va_D A (a ++ (b ++ (c ++ d)))) : va_D A ((a ++ c) ++ (b ++ d)) := by
  have h1 : va_D A (((a ++ b) ++ c) ++ d) := by simpa only [List.append_assoc] using h
  have l1 : ∀ k q, ((a ++ b) ++ c)[k]? = some q → (((a ++ b) ++ c) ++ d)[k]? = some q := fun k q hk => by rw [List.getElem?_append_left (List.getElem?_eq_some_iff.mp hk).1]; exact hk
  have l2 : ∀ k q, d[k]? = some q → (((a ++ b) ++ c) ++ d)[((a ++ b) ++ c).length + k]? = some q := fun k q hk => by rw [List.getElem?_append_right (by omega), show ((a ++ b) ++ c).length + k - ((a ++ b) ++ c).length = k by omega]; exact hk
  have hs : va_D A ((a ++ b) ++ c) := ⟨fun i j p q h2 h3 h4 => h1.1 i j p q (l1 _ _ h2) (l1 _ _ h3) h4, fun k q hk => h1.2 k q (l1 _ _ hk)⟩
  have hd : va_D A d := ⟨fun i j p q h2 h3 h4 => by have := h1.1 _ _ p q (l2 _ _ h2) (l2 _ _ h3) h4; omega, fun k q hk => h1.2 _ q (l2 _ _ hk)⟩
  have hx : ∀ (i j : Nat) (p q : Nat × va_E), ((a ++ b) ++ c)[i]? = some p → d[j]? = some q → p.1 ≠ q.1 := fun i j p q h2 h3 h4 => by
    have := h1.1 _ _ p q (l1 _ _ h2) (l2 _ _ h3) h4
    have := (List.getElem?_eq_some_iff.mp h2).1
    omega
  have hx2 : ∀ (i j : Nat) (p q : Nat × va_E), ((a ++ c) ++ b)[i]? = some p → d[j]? = some q → p.1 ≠ q.1 := fun i j p q h2 h3 => by
    have hm : p ∈ (a ++ b) ++ c := by
      have := List.mem_of_getElem? h2
      simp only [List.mem_append] at this ⊢
      rcases this with (h | h) | h
      · exact Or.inl (Or.inl h)
      · exact Or.inr h
      · exact Or.inl (Or.inr h)
    obtain ⟨k, hk⟩ := List.mem_iff_getElem?.mp hm
    exact hx k j p q hk h3
  have h2 := (hs.swap).app hd hx2
  simpa only [List.append_assoc] using h2
theorem tl_get {X pl : va_W} {b j : Nat} (hb : X.length = b) : (X ++ pl)[b + j]? = pl[j]? := by
  subst hb
  rw [List.getElem?_append_right (by omega), show X.length + j - X.length = j by omega]
theorem tl_get2 {X p1 p2 : va_W} {b j : Nat} (hb : X.length + p1.length = b) : (X ++ (p1 ++ p2))[b + j]? = p2[j]? := by
  rw [← List.append_assoc]
  exact tl_get (by rw [List.length_append]; exact hb)
theorem tl_left {p1 p2 : va_W} {j : Nat} {c : Nat × va_E} (h : p1[j]? = some c) : (p1 ++ p2)[j]? = some c := by
  rw [List.getElem?_append_left (List.getElem?_eq_some_iff.mp h).1]; exact h
theorem tl_set {X pl : va_W} {b j : Nat} {c : Nat × va_E} (hb : X.length = b) : (X ++ pl).set (b + j) c = X ++ pl.set j c := by
  subst hb
  rw [List.set_append_right (X.length + j) c (by omega), show X.length + j - X.length = j by omega]
theorem tl_set2 {X p1 p2 : va_W} {b j : Nat} {c : Nat × va_E} (hb : X.length + p1.length = b) : (X ++ (p1 ++ p2)).set (b + j) c = X ++ (p1 ++ p2.set j c) := by
  rw [← List.append_assoc, tl_set (by rw [List.length_append]; exact hb), List.append_assoc]
theorem tl_setL {p1 p2 : va_W} {j : Nat} {c : Nat × va_E} (h : j < p1.length) : (p1 ++ p2).set j c = p1.set j c ++ p2 := List.set_append_left j c h
theorem rw20_get (cI : ClassId) (K : Nat) (r : Nat → Nat) (g : Nat → Nat → Int) : ∀ j, j < 20 → (rw20 cI K r g)[j]? = some (r j, .inl (cI, K, .inl (fun k9 => iI (g j k9)))) := fun j hj => match j, hj with | 0, _ => rfl | 1, _ => rfl | 2, _ => rfl | 3, _ => rfl | 4, _ => rfl | 5, _ => rfl | 6, _ => rfl | 7, _ => rfl | 8, _ => rfl | 9, _ => rfl | 10, _ => rfl | 11, _ => rfl | 12, _ => rfl | 13, _ => rfl | 14, _ => rfl | 15, _ => rfl | 16, _ => rfl | 17, _ => rfl | 18, _ => rfl | 19, _ => rfl | n + 20, h => absurd h (by omega)
theorem rw20_len (cI : ClassId) (K : Nat) (r : Nat → Nat) (g : Nat → Nat → Int) : (rw20 cI K r g).length = 20 := rfl
theorem rw20_set (cI : ClassId) (K : Nat) (r : Nat → Nat) (g : Nat → Nat → Int) (t : Nat) (v : Int) : ∀ j, j < 20 → (rw20 cI K r g).set j (r j, .inl (cI, K, .inl (fun k9 => iI (updZ (g j) t v k9)))) = rw20 cI K r (upd2 g j t v) := fun j hj => match j, hj with | 0, _ => rfl | 1, _ => rfl | 2, _ => rfl | 3, _ => rfl | 4, _ => rfl | 5, _ => rfl | 6, _ => rfl | 7, _ => rfl | 8, _ => rfl | 9, _ => rfl | 10, _ => rfl | 11, _ => rfl | 12, _ => rfl | 13, _ => rfl | 14, _ => rfl | 15, _ => rfl | 16, _ => rfl | 17, _ => rfl | 18, _ => rfl | 19, _ => rfl | n + 20, h => absurd h (by omega)
theorem rw30_get (cI : ClassId) (K : Nat) (r : Nat → Nat) (g : Nat → Nat → Int) : ∀ j, j < 30 → (rw30 cI K r g)[j]? = some (r j, .inl (cI, K, .inl (fun k9 => iI (g j k9)))) := fun j hj => match j, hj with | 0, _ => rfl | 1, _ => rfl | 2, _ => rfl | 3, _ => rfl | 4, _ => rfl | 5, _ => rfl | 6, _ => rfl | 7, _ => rfl | 8, _ => rfl | 9, _ => rfl | 10, _ => rfl | 11, _ => rfl | 12, _ => rfl | 13, _ => rfl | 14, _ => rfl | 15, _ => rfl | 16, _ => rfl | 17, _ => rfl | 18, _ => rfl | 19, _ => rfl | 20, _ => rfl | 21, _ => rfl | 22, _ => rfl | 23, _ => rfl | 24, _ => rfl | 25, _ => rfl | 26, _ => rfl | 27, _ => rfl | 28, _ => rfl | 29, _ => rfl | n + 30, h => absurd h (by omega)
theorem rw30_len (cI : ClassId) (K : Nat) (r : Nat → Nat) (g : Nat → Nat → Int) : (rw30 cI K r g).length = 30 := rfl
theorem rw30_set (cI : ClassId) (K : Nat) (r : Nat → Nat) (g : Nat → Nat → Int) (t : Nat) (v : Int) : ∀ j, j < 30 → (rw30 cI K r g).set j (r j, .inl (cI, K, .inl (fun k9 => iI (updZ (g j) t v k9)))) = rw30 cI K r (upd2 g j t v) := fun j hj => match j, hj with | 0, _ => rfl | 1, _ => rfl | 2, _ => rfl | 3, _ => rfl | 4, _ => rfl | 5, _ => rfl | 6, _ => rfl | 7, _ => rfl | 8, _ => rfl | 9, _ => rfl | 10, _ => rfl | 11, _ => rfl | 12, _ => rfl | 13, _ => rfl | 14, _ => rfl | 15, _ => rfl | 16, _ => rfl | 17, _ => rfl | 18, _ => rfl | 19, _ => rfl | 20, _ => rfl | 21, _ => rfl | 22, _ => rfl | 23, _ => rfl | 24, _ => rfl | 25, _ => rfl | 26, _ => rfl | 27, _ => rfl | 28, _ => rfl | 29, _ => rfl | n + 30, h => absurd h (by omega)
section XXT
variable {p : Program} {l : Launch} {e : Env} {R : Room} {s : State} {m : MethodId} {args : Array Value} {below : List Frame} {meth : Method} {c : Code} {H : Heap} {locs : List Loc} {cells slots : Nat} {Q : State → Prop}
variable {G : va_G} {cl : List vw_C} {tys : xx_Tys} {E : (Nat → Prop) → State → Prop} {A : Nat → Prop} {ws wc wr : va_W} {post : Outcome → va_W → Prop}
variable {y : MethodName} {bytes cc : ByteArray} {maxL nL mc ms n index : Nat} {ret : Option FieldType} {wy : List Cond} {rm : Room} {Ts : List Cond} {own C : String} {b : Addr} {As rest st0 : List Value} {pc : Nat} {ls : Array Slot}
theorem xx_callVA {X pl : va_W} (S : CallFix p m c cc nL s args Ts own) (hSt : xx_St E) (hK : va_K G cl tys s) (hE : E A s) (hA : ∀ q, s.heap.size ≤ q → A q)
    (hM : MetX l y wy rm (XP G cl tys E (.ref b :: As) wc H.size) (XQ G cl (va_A wc H.size) post) mc ms (va_A wc H.size)) (cw : CallW R s args own C index y bytes maxL ret wy rm mc ms n) (hP : va_P G cl (X ++ pl) H) (hD : va_D A (X ++ pl)) (hS : va_S A s.heap H locs)
    (isC isR : List Nat) (hC : isC.map (fun i => X[i]?) = wc.map some) (hR : isR.map (fun i => X[i]?) = wr.map some) (hnC : va_nd isC = true) (hn : va_nd isR = true) (hdis : ∀ i ∈ isR, i ∉ isC)
    (q0 ci : Nat) {q : vw_C} {fs : List Value} (hq0 : wc[q0]? = some (b, .inr (ci, fs))) (hcl : cl[ci]? = some q) (hqC : q.1 = C)
    (hlen : As.length = n) (hsize : ls.size = nL) (hst : st0 = As.reverse ++ .ref b :: rest) (hW : (rest.map fun v => v.category).sum ≤ 8) (hdg : decode cc pc = .ok (.invokevirtual index, 3)) (hf : cells + mc ≤ R.cells ∧ slots + ms ≤ R.slots)
    (kR : ∀ (v : Option Value) (w1 : va_W) (H1 : Heap) (locs1 : List Loc), post (.returned v) w1 → va_P G cl ((wr ++ w1) ++ pl) H1 → va_D A ((wr ++ w1) ++ pl) → va_S A s.heap H1 locs1 → W p l e R s m args below meth c H1 locs1 (cells + mc) (slots + ms) Q (F0 m (pc + 3) ls (v.toList ++ rest)))
    (kT : ∀ (x : Addr) (w1 : va_W) (H1 : Heap) (locs1 : List Loc), post (.threw x) w1 → va_P G cl ((wr ++ w1) ++ pl) H1 → va_D A ((wr ++ w1) ++ pl) → va_S A s.heap H1 locs1 → WT p l e R s m args below meth c H1 locs1 (cells + mc) (slots + ms) Q (F0 m pc ls rest) x) : W p l e R s m args below meth c H locs cells slots Q (F0 m pc ls st0) :=
  xx_callV (wr := wr ++ pl) S hSt hK hE hA hM cw hP hD hS isC (isR ++ tlR X.length pl.length) (tl_map hC) (by rw [List.map_append, tl_map hR, tl_rng rfl, ← List.map_append]) hnC (tl_app hn (tl_ndR _ _) (fun i h1 h2 => by have q1 := tl_lt hR i h1; have q2 := tl_mem h2; omega)) (fun i h1 h2 => by
    rcases List.mem_append.mp h1 with h | h
    · exact hdis i h h2
    · have q1 := tl_lt hC i h2; have q2 := tl_mem h; omega) q0 ci hq0 hcl hqC hlen hsize hst hW hdg hf (fun v w1 H1 l1 hp h1 h2 h3 => kR v w1 H1 l1 hp h1.swap h2.swap h3) (fun x w1 H1 l1 hp h1 h2 h3 => kT x w1 H1 l1 hp h1.swap h2.swap h3)
theorem xx_callVB {X p1 p2 : va_W} (S : CallFix p m c cc nL s args Ts own) (hSt : xx_St E) (hK : va_K G cl tys s) (hE : E A s) (hA : ∀ q, s.heap.size ≤ q → A q)
    (hM : MetX l y wy rm (XP G cl tys E (.ref b :: As) (wc ++ p2) H.size) (XQ G cl (va_A (wc ++ p2) H.size) post) mc ms (va_A (wc ++ p2) H.size)) (cw : CallW R s args own C index y bytes maxL ret wy rm mc ms n) (hP : va_P G cl (X ++ (p1 ++ p2)) H) (hD : va_D A (X ++ (p1 ++ p2))) (hS : va_S A s.heap H locs)
    (isC isR : List Nat) (hC : isC.map (fun i => X[i]?) = wc.map some) (hR : isR.map (fun i => X[i]?) = wr.map some) (hnC : va_nd isC = true) (hn : va_nd isR = true) (hdis : ∀ i ∈ isR, i ∉ isC)
    (q0 ci : Nat) {q : vw_C} {fs : List Value} (hq0 : (wc ++ p2)[q0]? = some (b, .inr (ci, fs))) (hcl : cl[ci]? = some q) (hqC : q.1 = C)
    (hlen : As.length = n) (hsize : ls.size = nL) (hst : st0 = As.reverse ++ .ref b :: rest) (hW : (rest.map fun v => v.category).sum ≤ 8) (hdg : decode cc pc = .ok (.invokevirtual index, 3)) (hf : cells + mc ≤ R.cells ∧ slots + ms ≤ R.slots)
    (kR : ∀ (v : Option Value) (w1 : va_W) (H1 : Heap) (locs1 : List Loc), post (.returned v) w1 → va_P G cl (wr ++ (p1 ++ w1)) H1 → va_D A (wr ++ (p1 ++ w1)) → va_S A s.heap H1 locs1 → W p l e R s m args below meth c H1 locs1 (cells + mc) (slots + ms) Q (F0 m (pc + 3) ls (v.toList ++ rest)))
    (kT : ∀ (x : Addr) (w1 : va_W) (H1 : Heap) (locs1 : List Loc), post (.threw x) w1 → va_P G cl (wr ++ (p1 ++ w1)) H1 → va_D A (wr ++ (p1 ++ w1)) → va_S A s.heap H1 locs1 → WT p l e R s m args below meth c H1 locs1 (cells + mc) (slots + ms) Q (F0 m pc ls rest) x) : W p l e R s m args below meth c H locs cells slots Q (F0 m pc ls st0) :=
  xx_callV (ws := X ++ (p1 ++ p2)) (wr := wr ++ p1) S hSt hK hE hA hM cw hP hD hS (isC ++ tlR (X ++ p1).length p2.length) (isR ++ tlR X.length p1.length) (by rw [← List.append_assoc, List.map_append, tl_map (tl_map hC), tl_rng rfl, ← List.map_append]) (by rw [← List.append_assoc, List.map_append, tl_map (tl_map hR), tl_map (tl_rng rfl), ← List.map_append]) (tl_app hnC (tl_ndR _ _) (fun i h1 h2 => by have q1 := tl_lt hC i h1; have q2 := tl_mem h2; rw [List.length_append] at q2; omega)) (tl_app hn (tl_ndR _ _) (fun i h1 h2 => by have q1 := tl_lt hR i h1; have q2 := tl_mem h2; omega)) (fun i h1 h2 => by
    rcases List.mem_append.mp h1 with h | h
    · rcases List.mem_append.mp h2 with h' | h'
      · exact hdis i h h'
      · have q1 := tl_lt hR i h; have q2 := tl_mem h'; rw [List.length_append] at q2; omega
    · rcases List.mem_append.mp h2 with h' | h'
      · have q1 := tl_lt hC i h'; have q2 := tl_mem h; omega
      · have q1 := tl_mem h; have q2 := tl_mem h'; rw [List.length_append] at q2; omega) q0 ci hq0 hcl hqC hlen hsize hst hW hdg hf (fun v w1 H1 l1 hp h1 h2 h3 => kR v w1 H1 l1 hp (by rw [List.append_assoc] at h1; exact h1) (by rw [List.append_assoc] at h2; exact h2) h3) (fun x w1 H1 l1 hp h1 h2 h3 => kT x w1 H1 l1 hp (by rw [List.append_assoc] at h1; exact h1) (by rw [List.append_assoc] at h2; exact h2) h3)
end XXT
