/-! VALID: blocks as they are nested -/
def sig (F : SS) : List (Int × Int) := F.map (fun x => x.2.2)
set_option maxRecDepth 20000 in
theorem sig_len (F : SS) : (sig F).length = F.length := List.length_map _
set_option maxRecDepth 20000 in
theorem omap_some {α β : Type} {x : Option α} {k : α → β} {y : β} (h : x.map k = some y) : ∃ a, x = some a ∧ k a = y := by
  cases x with
  | none => cases h
  | some a => cases h; exact ⟨a, rfl, rfl⟩
set_option maxRecDepth 20000 in
theorem obnd_some {α β : Type} {x : Option α} {k : α → Option β} {y : β} (h : x.bind k = some y) : ∃ a, x = some a ∧ k a = some y := by
  cases x with
  | none => cases h
  | some a => exact ⟨a, rfl, h⟩
set_option maxRecDepth 20000 in
theorem ite_some {α : Type} {c : Prop} [Decidable c] {x : Option α} {y : α} (h : (if c then x else none) = some y) : c ∧ x = some y := by
  by_cases q : c
  · rw [if_pos q] at h; exact ⟨q, h⟩
  · rw [if_neg q] at h; cases h
section SGS
variable {M1 : KM1} {Mp : KMp} {M3 : KM3} {Mj : KMj} {Ml : KMl} {M5 : KM5} {M6 : KM6} {g : Nat} {lab : Nat → Int} {o : Int} {v : Int64} {e : Int} {F F' R : SS} {x y : Fr}
set_option maxRecDepth 20000 in
theorem push_snd {t : Int} : (pushA t x).2 = x.2 := by unfold pushA; split <;> rfl
set_option maxRecDepth 20000 in
theorem pops_snd {pt : Nat → Int} : ∀ (n : Nat) (x y : Fr), popsA pt n x = some y → y.2 = x.2
  | 0, x, y, h => by cases h; rfl
  | n + 1, x, y, h => by
    obtain ⟨a, e1, e2⟩ := obnd_some h
    exact (pops_snd n a.2 y e2).trans (popA_snd e1)
set_option maxRecDepth 20000 in
theorem num_snd {i u : Int} {b : Bool} (h : numA i u b x = some y) : y.2 = x.2 := by
  obtain ⟨a, e1, e2⟩ := obnd_some h
  by_cases c : b = true
  · rw [if_pos c] at e2; cases e2; exact push_snd.trans (popA_snd e1)
  · rw [if_neg c] at e2
    obtain ⟨w, e3, e4⟩ := omap_some e2
    rw [← e4]
    exact push_snd.trans ((popA_snd e3).trans (popA_snd e1))
set_option maxRecDepth 20000 in
theorem mem_snd {b : Bool} (h : memA b o e x = some y) : y.2 = x.2 := by
  unfold memA at h
  obtain ⟨_, h⟩ := ite_some h
  by_cases c : o < 54
  · rw [if_pos c] at h
    obtain ⟨a, e1, e2⟩ := omap_some h
    rw [← e2]; exact push_snd.trans (popA_snd e1)
  · rw [if_neg c] at h
    obtain ⟨a, e1, e2⟩ := obnd_some h
    obtain ⟨w, e3, e4⟩ := omap_some e2
    rw [← e4]; exact (popA_snd e3).trans (popA_snd e1)
set_option maxRecDepth 20000 in
theorem op_snd (h : opF M1 Mp M3 Mj Ml M5 M6 g o v e x = some y) : y.2 = x.2 := by
  unfold opF at h
  by_cases c : o = 16
  · rw [if_pos c] at h
    obtain ⟨_, h⟩ := ite_some h
    obtain ⟨a, e1, e2⟩ := omap_some h
    rw [← e2]; exact push_snd.trans (pops_snd _ _ _ e1)
  rw [if_neg c] at h
  by_cases c : o = 26
  · rw [if_pos c] at h
    obtain ⟨a, e1, e2⟩ := omap_some h
    rw [← e2]; exact popA_snd e1
  rw [if_neg c] at h
  by_cases c : o = 27
  · rw [if_pos c] at h
    obtain ⟨a, e1, h⟩ := obnd_some h
    obtain ⟨b, e2, h⟩ := obnd_some h
    obtain ⟨d, e3, h⟩ := obnd_some h
    obtain ⟨_, h⟩ := ite_some h
    cases h
    exact (popA_snd e3).trans ((popA_snd e2).trans (popA_snd e1))
  rw [if_neg c] at h
  by_cases c : o = 32
  · rw [if_pos c] at h
    obtain ⟨a, e1, e2⟩ := omap_some h
    rw [← e2]; exact push_snd
  rw [if_neg c] at h
  by_cases c : o = 33
  · rw [if_pos c] at h
    obtain ⟨a, e1, h⟩ := obnd_some h
    obtain ⟨b, e2, e3⟩ := omap_some h
    rw [← e3]; exact popA_snd e2
  rw [if_neg c] at h
  by_cases c : o = 34
  · rw [if_pos c] at h
    obtain ⟨a, e1, h⟩ := obnd_some h
    obtain ⟨b, e2, e3⟩ := omap_some h
    rw [← e3]; exact push_snd.trans (popA_snd e2)
  rw [if_neg c] at h
  by_cases c : o = 35
  · rw [if_pos c] at h
    obtain ⟨_, h⟩ := ite_some h
    cases h; exact push_snd
  rw [if_neg c] at h
  by_cases c : o = 36
  · rw [if_pos c] at h
    obtain ⟨_, h⟩ := ite_some h
    obtain ⟨b, e2, e3⟩ := omap_some h
    rw [← e3]; exact popA_snd e2
  rw [if_neg c] at h
  by_cases c : o ≤ 58
  · rw [if_pos c] at h; exact mem_snd h
  rw [if_neg c] at h
  by_cases c : o = 63
  · rw [if_pos c] at h
    obtain ⟨_, h⟩ := ite_some h
    cases h; exact push_snd
  rw [if_neg c] at h
  by_cases c : o = 64
  · rw [if_pos c] at h
    obtain ⟨_, h⟩ := ite_some h
    obtain ⟨b, e2, e3⟩ := omap_some h
    rw [← e3]; exact push_snd.trans (popA_snd e2)
  rw [if_neg c] at h
  by_cases c : o = 65
  · rw [if_pos c] at h; cases h; exact push_snd
  rw [if_neg c] at h
  by_cases c : o = 66
  · rw [if_pos c] at h; cases h; exact push_snd
  rw [if_neg c] at h
  exact num_snd h
set_option maxRecDepth 20000 in
/-- what the blocks carry and give, behind an instruction -/
theorem stV_sig {k4 : Prop} [Decidable k4] (h : stV M1 Mp M3 Mj Ml M5 M6 g lab k4 o v e F = some F') : sig F' = if isOp o then ((if o = 3 then 0 else uT e), uT e) :: sig F else if o = 11 then (sig F).tail else sig F := by
  cases F with
  | nil => cases h
  | cons x R =>
    have k : ∀ y : Fr, y.2 = x.2 → sig (y :: R) = sig (x :: R) := fun y hy => by show y.2.2 :: sig R = x.2.2 :: sig R; rw [hy]
    unfold stV at h
    dsimp only at h
    by_cases c : o = 0
    · rw [if_pos c] at h; cases h; rw [if_neg (by omega), if_neg (by omega)]; rfl
    rw [if_neg c] at h
    by_cases c : o = 1
    · rw [if_pos c] at h; cases h; rw [if_neg (by omega), if_neg (by omega)]
    rw [if_neg c] at h
    by_cases c : o = 2 ∨ o = 3
    · rw [if_pos c] at h; cases h; rw [if_pos (show isOp o by omega)]; rfl
    rw [if_neg c] at h
    by_cases c4 : o = 4
    · rw [if_pos c4] at h
      obtain ⟨a, e1, e2⟩ := omap_some h
      rw [← e2, if_pos (show isOp o by omega), if_neg (show ¬ o = 3 by omega)]
      show (uT e, uT e) :: sig (a.2 :: R) = _
      rw [k _ (popA_snd e1)]
    rw [if_neg c4] at h
    rw [if_neg (show ¬ isOp o by omega)]
    by_cases c : o = 5
    · rw [if_pos c] at h
      obtain ⟨a, e1, h⟩ := obnd_some h
      obtain ⟨_, h⟩ := ite_some h
      cases h; rw [if_neg (by omega)]; rfl
    rw [if_neg c] at h
    by_cases c : o = 11
    · rw [if_pos c] at h
      obtain ⟨a, e1, h⟩ := obnd_some h
      obtain ⟨_, h⟩ := ite_some h
      rw [if_pos c]
      cases R with
      | nil => cases h
      | cons w R' => cases h; show (pushA x.2.2.2 w).2.2 :: sig R' = w.2.2 :: sig R'; rw [push_snd]
    rw [if_neg c] at h
    rw [if_neg c]
    by_cases c : o = 12
    · rw [if_pos c] at h
      obtain ⟨l, e1, h⟩ := obnd_some h
      obtain ⟨a, e2, e3⟩ := omap_some h
      rw [← e3]
      show a.2.2 :: sig R = x.2.2 :: sig R
      rw [popO_snd e2]
    rw [if_neg c] at h
    by_cases c : o = 13
    · rw [if_pos c] at h
      obtain ⟨l, e1, h⟩ := obnd_some h
      obtain ⟨b, e2, h⟩ := obnd_some h
      obtain ⟨a, e3, e4⟩ := omap_some h
      rw [← e4]
      exact k _ (push_snd.trans ((popO_snd e3).trans (popA_snd e2)))
    rw [if_neg c] at h
    by_cases c : o = 14
    · rw [if_pos c] at h
      obtain ⟨l, e1, h⟩ := obnd_some h
      obtain ⟨_, h⟩ := ite_some h
      obtain ⟨b, e2, h⟩ := obnd_some h
      obtain ⟨a, e3, e4⟩ := omap_some h
      rw [← e4]
      show a.2.2 :: sig R = x.2.2 :: sig R
      rw [popO_snd e3, popA_snd e2]
    rw [if_neg c] at h
    by_cases c : o = 15
    · rw [if_pos c] at h
      obtain ⟨a, e2, e3⟩ := omap_some h
      rw [← e3]
      show a.2.2 :: sig R = x.2.2 :: sig R
      rw [popO_snd e2]
    rw [if_neg c] at h
    obtain ⟨a, e2, e3⟩ := omap_some h
    rw [← e3]
    exact k _ (op_snd e2)
set_option maxRecDepth 20000 in
theorem ROr_bot {vo : KVo} : ∀ (F : SS) (a : Int × Int), (sig F).getLast? = some a → ROr vo F → vo.outs 0 = a.2
  | [], _, h, _ => by cases h
  | [x], a, h, ⟨_, _, _, h4, _⟩ => by cases h; exact h4
  | x :: y :: R, a, h, ⟨_, _, _, _, _, _, h7⟩ => ROr_bot (y :: R) a (by simpa [sig] using h) h7
end SGS
/-- the reference's row of kinds: 5 for an if whose else has come -/
def KDr (kd ops el : Nat → Int) (i : Nat) : List Nat → Prop
  | [] => kd 0 = 0
  | o :: t => kd (t.length + 1) = (if ops o = 4 ∧ 0 ≤ el o ∧ el o < i then 5 else ops o) ∧ KDr kd ops el i t
set_option maxRecDepth 20000 in
theorem KDr.cg {kd kd' ops el : Nat → Int} {i i' : Nat} : ∀ (l : List Nat), (∀ k, k ≤ l.length → kd' k = kd k) → (∀ o, o ∈ l → ((ops o = 4 ∧ 0 ≤ el o ∧ el o < i') ↔ (ops o = 4 ∧ 0 ≤ el o ∧ el o < i))) → KDr kd ops el i l → KDr kd' ops el i' l
  | [], h, _, h1 => (h 0 (Nat.le_refl _)).trans h1
  | o :: t, h, h2, ⟨h1, h3⟩ => by
    refine ⟨(h _ (Nat.le_refl _)).trans (h1.trans ?_), KDr.cg t (fun k hk => h k (Nat.le_succ_of_le hk)) (fun o' ho' => h2 o' (List.mem_cons_of_mem _ ho')) h3⟩
    have := h2 o (List.mem_cons_self)
    by_cases c : ops o = 4 ∧ 0 ≤ el o ∧ el o < i
    · rw [if_pos c, if_pos (this.mpr c)]
    · rw [if_neg c, if_neg (fun q => c (this.mp q))]
