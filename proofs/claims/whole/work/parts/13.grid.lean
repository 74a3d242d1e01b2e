/-! AN ARRAY OF ARRAYS, its rows kept in the world -/
def gq_outer (cG : ClassId) (q N : Nat) (r : Nat → Nat) : Nat × va_E := (q, .inl (cG, N, .inr (.inr (.inr (.inr (fun j => some (r j)))))))
def gq_row (cI : ClassId) (K : Nat) (r : Nat → Nat) (j : Nat) : Nat × va_E := (r j, .inl (cI, K, .inl (fun _ => 0)))
theorem gq_rows {D : va_G} {cl : List vw_C} {cI : ClassId} {K h0 : Nat} {H1 : Heap} : ∀ {N : Nat}, (∀ j, j < N → H1[h0 + 1 + j]? = some (gd_row cI K (defaultValue .int))) → va_P D cl ((List.range N).map (gq_row cI K (fun j => h0 + 1 + j))) H1 := fun {N} h k q hq => by
  simp only [List.getElem?_map, Option.map_eq_some_iff] at hq
  obtain ⟨j, hj, rfl⟩ := hq
  have hj' := List.mem_of_getElem? hj
  rw [List.mem_range] at hj'
  show H1[h0 + 1 + j]? = some (vp_cell _ _)
  rw [h j hj']
  exact congrArg some (arrV_new cI K (.int 0))
theorem gq_dis {A : Nat → Prop} {cI : ClassId} {K h0 N : Nat} (hA : ∀ q, h0 ≤ q → A q) : va_D A ((List.range N).map (gq_row cI K (fun j => h0 + 1 + j))) := by
  refine ⟨fun i j p q hp hq e => ?_, fun k q hq => ?_⟩
  · simp only [List.getElem?_map, Option.map_eq_some_iff] at hp hq
    obtain ⟨a, ha, rfl⟩ := hp
    obtain ⟨b, hb, rfl⟩ := hq
    have e : h0 + 1 + a = h0 + 1 + b := e
    have h1 := List.getElem?_eq_some_iff.mp ha
    have h2 := List.getElem?_eq_some_iff.mp hb
    obtain ⟨l1, h1⟩ := h1
    obtain ⟨l2, h2⟩ := h2
    rw [List.getElem_range] at h1 h2
    omega
  · simp only [List.getElem?_map, Option.map_eq_some_iff] at hq
    obtain ⟨a, ha, rfl⟩ := hq
    exact hA _ (by show h0 ≤ h0 + 1 + a; omega)
section XXQ
variable {p : Program} {l : Launch} {e : Env} {R : Room} {s : State} {m : MethodId} {args : Array Value} {below : List Frame} {meth : Method} {c : Code} {H : Heap} {locs : List Loc} {cells slots : Nat} {Q : State → Prop}
variable {G : va_G} {cl : List vw_C} {A : Nat → Prop} {ws : va_W} {cc : ByteArray} {own : String} {index : Nat} {pc : Nat} {ls : Array Slot} {rest : List Value}
theorem xx_grid (hexec : p.tables.exec = Jvm.exec) (hb : c.code = cc) (hown : s.vm.findClass own = some m.cls) (hclink : (Cond.classLink own index "[[I").before args s = true) (hover : gd_Ov s) (harr : (Cond.arrayClass .int).before args s = true)
    {tys : xx_Tys} (hKK : va_K G cl tys s) {cG cI : ClassId} (tG tI : Nat) (htG : tys[tG]? = some (cG, .array .int)) (htI : tys[tI]? = some (cI, .int))
    (hP : va_P G cl ws H) (hD : va_D A ws) (hS : va_S A s.heap H locs) (hA : ∀ q, s.heap.size ≤ q → A q) {n k : Int32} {N K : Nat} (hdg : decode cc pc = .ok (.multianewarray index 2, 4)) (hn : ¬ n < 0) (hk : ¬ k < 0) (hN : n.toNatClampNeg = N) (hK : k.toNatClampNeg = K) (hb1 : N * 4 ≤ 536870912) (hb2 : K * 4 ≤ 536870912)
    (hcells : cells + (1 + N) ≤ R.cells) (hslots : slots + (N + N * K) ≤ R.slots)
    (kk : ∀ (q : Nat) (r : Nat → Nat) (H1 : Heap) (locs1 : List Loc), va_P G cl (ws ++ (gq_outer cG q N r :: (List.range N).map (gq_row cI K r))) H1 → va_D A (ws ++ (gq_outer cG q N r :: (List.range N).map (gq_row cI K r))) → va_S A s.heap H1 locs1 → W p l e R s m args below meth c H1 locs1 (cells + 1 + N) (slots + N + N * K) Q (F0 m (pc + 4) ls (.ref q :: rest))) : W p l e R s m args below meth c H locs cells slots Q (F0 m pc ls (.int k :: .int n :: rest)) := by
  subst hN; subst hK
  refine gd_multi hexec hb hown hclink hover harr hdg hn hk hb1 (by exact hb2) (by omega) hcells hslots (fun H1 cA comp L hcA hcI hat hL => ?_)
  have eG : cA = cG := Option.some.inj (hcA.symm.trans ((hKK.2 tG _ htG).2 : s.vm.findClass _ = some cG))
  have eI : comp = cI := Option.some.inj (hcI.symm.trans ((hKK.2 tI _ htI).2 : s.vm.findClass _ = some cI))
  subst eG; subst eI
  obtain ⟨hz, ho, ⟨sl, hsl, hsz, hv⟩, hr⟩ := hat
  have hA2 : ∀ q, H.size ≤ q → A q := fun q h => hA q (Nat.le_trans hS.1 h)
  have hold : va_P G cl ws H1 := hP.kept (fun k x hx => ho _ ((hP k x hx).lt))
  refine kk H.size (fun j => H.size + 1 + j) H1 (locs ++ L) ?_ ?_ ⟨Nat.le_trans hS.1 (by rw [hz]; omega), fun q h1 h2 => (ho q (Nat.lt_of_lt_of_le h1 hS.1)).trans (hS.2.1 q h1 h2), fun q hq => ?_⟩
  · refine hold.app ?_
    intro k q hq
    cases k with
    | zero =>
      cases hq
      show H1[H.size]? = some (vp_cell _ _)
      rw [hsl]
      refine congrArg some ?_
      show ({ cls := cA, slots := sl } : Cell) = arrV cA n.toNatClampNeg (fun j => va_rf (some (H.size + 1 + j)))
      unfold arrV
      congr 1
      refine Array.ext (by rw [hsz]; simp) (fun i h1 h2 => ?_)
      have h3 : i < n.toNatClampNeg := by rw [← hsz]; exact h1
      have h4 := hv i h3
      rw [if_pos h3] at h4
      have h5 := (Array.getElem?_eq_some_iff.mp h4).2
      rw [h5]
      simp [va_rf]
    | succ k => exact gq_rows (D := G) (cl := cl) (fun j hj => hr j hj) k q hq
  · refine va_D.app hD ?_ (fun i j p q hp hq => ?_)
    · have h0 : va_D A ([gq_outer cA H.size n.toNatClampNeg (fun j => H.size + 1 + j)] ++ (List.range n.toNatClampNeg).map (gq_row comp k.toNatClampNeg (fun j => H.size + 1 + j))) := by
        refine va_D.app ⟨fun i j p q hp hq _ => ?_, fun k q hq => ?_⟩ (gq_dis hA2) (fun i j p q hp hq => ?_)
        · have h1 := (List.getElem?_eq_some_iff.mp hp).1
          have h2 := (List.getElem?_eq_some_iff.mp hq).1
          simp at h1 h2
          omega
        · have h1 := List.mem_of_getElem? hq
          rw [List.mem_singleton] at h1
          subst h1
          exact hA2 _ (Nat.le_refl _)
        · have h1 := List.mem_of_getElem? hp
          rw [List.mem_singleton] at h1
          subst h1
          obtain ⟨a, -, rfl⟩ := List.mem_map.mp (List.mem_of_getElem? hq)
          show H.size ≠ H.size + 1 + a
          omega
      exact h0
    · have h1 : p.1 < H.size := (hP i p hp).lt
      have h2 : H.size ≤ q.1 := by
        rcases List.mem_cons.mp (List.mem_of_getElem? hq) with h | h
        · rw [h]; exact Nat.le_refl _
        · obtain ⟨a, -, rfl⟩ := List.mem_map.mp h
          show H.size ≤ H.size + 1 + a
          omega
      omega
  · rcases List.mem_append.mp hq with h | h
    · exact hS.2.2 q h
    · rw [hL q h]; exact hA _ hS.1
/-- a row of a grid is taken -/
theorem va_aldg {tys : xx_Tys} {a : Nat} (hexec : p.tables.exec = Jvm.exec) (hb : c.code = cc) (hK : va_K G cl tys s) (hP : va_P G cl ws H) (q0 t0 : Nat) {cA : ClassId} {n : Nat} {f : Nat → Option Nat} (ha : ws[q0]? = some (a, .inl (cA, n, .inr (.inr (.inr (.inr f)))))) (ht : tys[t0]? = some (cA, .array .int)) {i : Int32} (hin : vp_in i n) (hdg : decode cc pc = .ok (.aaload, 1))
    (kk : W p l e R s m args below meth c H locs cells slots Q (F0 m (pc + 1) ls (va_rf (f i.toNatClampNeg) :: rest))) : W p l e R s m args below meth c H locs cells slots Q (F0 m pc ls (.int i :: .ref a :: rest)) := by
  have hlt : i.toNatClampNeg < n := Nat.not_le.mp fun q => hin (Or.inr q)
  exact W.aald (v := va_rf (f i.toNatClampNeg)) (ty := .array .int) hexec hb (hP q0 _ ha) ((hK.2 t0 _ ht).1 n (fun j => va_rf (f j))) rfl (fun q => by cases q) (by show ¬ (i < 0 ∨ (arrV _ _ _).slots.size ≤ _); rw [arrV_size]; exact hin) (by show (arrV _ _ _).slots[_]? = _; rw [arrV_read _ _ hlt]) rfl rfl hdg kk
end XXQ
theorem xx_narO {v : Value} (h : v.isRef = true) (n : String) : narrow (.object n) v = v := by cases v <;> simp_all [Value.isRef] <;> rfl
theorem xx_fitO {v : Value} (h : v.isRef = true) (n : String) : fits (.object n) v = true := by cases v <;> simp_all [Value.isRef] <;> rfl
theorem xx_narA {v : Value} (h : v.isRef = true) (t : FieldType) : narrow (.array t) v = v := by cases v <;> simp_all [Value.isRef] <;> rfl
theorem xx_fitA {v : Value} (h : v.isRef = true) (t : FieldType) : fits (.array t) v = true := by cases v <;> simp_all [Value.isRef] <;> rfl
