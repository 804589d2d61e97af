/-- what holds of the reader before sign p of a text that stood so far -/
def WS (t : Nat → Int32) (p : Nat) : RS → Prop
  | (stk, e, h, x, g, _, st) => (∀ a ∈ stk, a.1 < p ∧ a.2 < p) ∧ (e ≠ 0 → h < p) ∧ st ≤ p ∧ g ≤ 4 ∧ e ≤ 8 ∧ (e ≤ 5 → EB t stk) ∧ (6 ≤ e → EP t stk) ∧ (e = 0 → stk = []) ∧
    (e = 1 → (kd t h = 3 ∧ stk = []) ∨ (kd t h = 5 ∧ stk ≠ [])) ∧ (2 ≤ e → stk ≠ []) ∧ (4 ≤ e → x = 59 ∨ (x = 123 ∧ (kd t h = 4 ∨ kd t h = 6))) ∧ (7 ≤ e → popP t stk = stk) ∧ stk.length ≤ 6
theorem WS.WR {t : Nat → Int32} {p : Nat} {r : RS} (h : WS t p r) : WR t p r := by
  obtain ⟨stk, e, hh, x, g, pr, st⟩ := r
  obtain ⟨a1, a2, a3, a4, a5, a6, a7, a8, a9, a10, a11, a12, a13⟩ := h
  exact ⟨a1, a2, a3, a4, a10⟩
theorem mem_up {p : Nat} {l : List (Nat × Nat)} (h : ∀ a ∈ l, a.1 < p ∧ a.2 < p) : ∀ a ∈ l, a.1 < p + 1 ∧ a.2 < p + 1 := fun a ha => by have := h a ha; omega
theorem pop_mem {t : Nat → Int32} : ∀ {l : List (Nat × Nat)} {a : Nat × Nat}, a ∈ popP t l → a ∈ l
  | [], _, h => h
  | b :: l, a, h => by
    by_cases q : isP (t b.1)
    · rw [pop_y q] at h; exact List.mem_cons_of_mem _ (pop_mem h)
    · rw [pop_n q] at h; exact h
theorem WS_step {t : Nat → Int32} {p : Nat} {r r' : RS} (hW : WS t p r) (hs : stepR t p r = some r') : WS t (p + 1) r' := by
  obtain ⟨stk, e, h, x, g, pr, st⟩ := r
  obtain ⟨a1, a2, a3, a4, a5, a6, a7, a8, a9, a10, a11, a12, a13⟩ := hW
  simp only [stepR] at hs
  by_cases e0 : e = 0
  · rw [if_pos e0] at hs
    by_cases q : isL (t p)
    · rw [if_pos q] at hs
      cases hs
      have hk := a8 e0
      subst hk
      exact ⟨mem_up a1, fun _ => by omega, by omega, a4, by omega, fun _ => trivial, fun z => by omega, fun z => by omega, fun _ => Or.inl ⟨kd_L.mp q, rfl⟩, fun z => by omega, fun z => by omega, fun z => by omega, a13⟩
    · rw [if_neg q] at hs; cases hs
  rw [if_neg e0] at hs
  have ah := a2 e0
  by_cases e1 : e = 1
  · rw [if_pos e1] at hs
    by_cases q : t p = 123
    · rw [if_pos q] at hs
      by_cases q2 : stk.length < 6
      · rw [if_pos q2] at hs
        cases hs
        refine ⟨?_, fun _ => by omega, by omega, a4, by omega, fun _ => ⟨⟨?_, ?_, ?_, q, ah⟩, a6 (by omega)⟩, fun z => by omega, fun z => by omega, fun z => by omega, fun _ => List.cons_ne_nil _ _, fun z => by omega, fun z => by omega, q2⟩
        · intro a ha
          rcases List.mem_cons.mp ha with rfl | ha
          · exact ⟨by omega, by omega⟩
          · exact mem_up a1 a ha
        · show 3 ≤ kd t h
          rcases a9 e1 with z | z <;> (have := z.1; omega)
        · show kd t h ≤ 6
          rcases a9 e1 with z | z <;> (have := z.1; omega)
        · show kd t h = 3 ↔ stk = []
          rcases a9 e1 with z | z
          · exact ⟨fun _ => z.2, fun _ => z.1⟩
          · exact ⟨fun w => by have := z.1; omega, fun w => absurd w z.2⟩
      · rw [if_neg q2] at hs; cases hs
    · rw [if_neg q] at hs; cases hs
  rw [if_neg e1] at hs
  have hne := a10 (by omega)
  by_cases e3 : e = 3 ∧ t p = 58
  · rw [if_pos e3] at hs
    cases hs
    exact ⟨mem_up a1, fun _ => by omega, by omega, a4, by omega, fun _ => a6 (by omega), fun z => by omega, fun z => by omega, fun _ => Or.inr ⟨kd_5 e3.2, hne⟩, fun z => by omega, fun z => by omega, fun z => by omega, a13⟩
  rw [if_neg e3] at hs
  by_cases e2 : e = 2 ∨ e = 3
  · rw [if_pos e2] at hs
    have hEB := a6 (by omega)
    by_cases q : t p = 125
    · rw [if_pos q] at hs
      match stk, a1, hEB, a13, hs with
      | [], _, _, _, hs => cases hs
      | a :: l, a1, hEB, a13, hs =>
        have hs := Option.some.inj hs
        subst hs
        have hl : l.length + 1 ≤ 6 := a13
        have a1' : ∀ b ∈ l, b.1 < p + 1 ∧ b.2 < p + 1 := fun b hb => mem_up a1 b (List.mem_cons_of_mem _ hb)
        by_cases z : isL (t a.1)
        · rw [if_pos z]
          have hl0 : l = [] := hEB.1.2.2.1.mp (kd_L.mp z)
          subst hl0
          exact ⟨a1', fun w => absurd rfl w, by omega, a4, by omega, fun _ => trivial, fun w => by omega, fun _ => rfl, fun w => by omega, fun w => by omega, fun w => by omega, fun w => by omega, by show 0 ≤ 6; omega⟩
        · rw [if_neg z]
          have hl0 : l ≠ [] := fun w => z (kd_L.mpr (hEB.1.2.2.1.mpr w))
          by_cases z2 : t a.1 = 63
          · rw [if_pos z2]
            exact ⟨a1', fun _ => by omega, by omega, a4, by omega, fun _ => hEB.2, fun w => by omega, fun w => by omega, fun w => by omega, fun _ => hl0, fun w => by omega, fun w => by omega, by omega⟩
          · rw [if_neg z2]
            exact ⟨a1', fun _ => by omega, by omega, a4, by omega, fun _ => hEB.2, fun w => by omega, fun w => by omega, fun w => by omega, fun _ => hl0, fun w => by omega, fun w => by omega, by omega⟩
    · rw [if_neg q] at hs
      have key : ∀ (x' : Int32) (e' : Nat), 4 ≤ e' → e' ≤ 6 → (x' = 59 ∨ (x' = 123 ∧ (kd t p = 4 ∨ kd t p = 6))) → WS t (p + 1) (stk, e', p, x', g, pr, st + 1) := by
        intro x' e' h4 h6 hx
        exact ⟨mem_up a1, fun _ => by omega, by omega, a4, by omega, fun _ => hEB, fun _ => EB_EP hEB hne, fun w => by omega, fun w => by omega, fun _ => hne, fun _ => hx, fun w => by omega, a13⟩
      by_cases q1 : isV (t p)
      · rw [if_pos q1] at hs; cases hs; exact key 59 4 (by omega) (by omega) (Or.inl rfl)
      rw [if_neg q1] at hs
      by_cases q2 : isL (t p)
      · rw [if_pos q2] at hs; cases hs; exact key 59 5 (by omega) (by omega) (Or.inl rfl)
      rw [if_neg q2] at hs
      by_cases q3 : t p = 33
      · rw [if_pos q3] at hs; cases hs; exact key 59 6 (by omega) (by omega) (Or.inl rfl)
      rw [if_neg q3] at hs
      by_cases q4 : t p = 63 ∨ t p = 64
      · rw [if_pos q4] at hs; cases hs
        exact key 123 6 (by omega) (by omega) (Or.inr ⟨rfl, q4.elim (fun z => Or.inl (kd_4 z)) (fun z => Or.inr (kd_6 z))⟩)
      rw [if_neg q4] at hs; cases hs
  rw [if_neg e2] at hs
  have hx := a11 (by omega)
  by_cases e4 : e = 4
  · rw [if_pos e4] at hs
    by_cases q : t p = 61
    · rw [if_pos q] at hs; cases hs
      have hEB := a6 (by omega)
      exact ⟨mem_up a1, fun _ => by omega, by omega, a4, by omega, fun _ => hEB, fun _ => EB_EP hEB hne, fun w => by omega, fun w => by omega, fun _ => hne, fun _ => hx, fun w => by omega, a13⟩
    · rw [if_neg q] at hs; cases hs
  rw [if_neg e4] at hs
  by_cases e5 : e = 5
  · rw [if_pos e5] at hs
    by_cases q : t p = 59
    · rw [if_pos q] at hs; cases hs
      exact ⟨mem_up a1, fun _ => by omega, by omega, a4, by omega, fun _ => a6 (by omega), fun w => by omega, fun w => by omega, fun w => by omega, fun _ => hne, fun w => by omega, fun w => by omega, a13⟩
    · rw [if_neg q] at hs; cases hs
  rw [if_neg e5] at hs
  have hEP := a7 (by omega)
  by_cases e6 : e = 6
  · rw [if_pos e6] at hs
    by_cases q0 : t p = 40 ∨ isP (t p)
    · rw [if_pos q0] at hs
      by_cases q2 : stk.length < 6
      · rw [if_pos q2] at hs; cases hs
        refine ⟨?_, fun _ => by omega, by omega, a4, by omega, fun w => by omega, fun _ => Or.inr ⟨q0.elim (fun z => Or.inl (kd_1 z)) (fun z => Or.inr (kd_2 z)), rfl, hEP⟩, fun w => by omega, fun w => by omega, fun _ => List.cons_ne_nil _ _, fun _ => hx, fun w => by omega, q2⟩
        intro a ha
        rcases List.mem_cons.mp ha with rfl | ha
        · exact ⟨by omega, by omega⟩
        · exact mem_up a1 a ha
      · rw [if_neg q2] at hs; cases hs
    rw [if_neg q0] at hs
    have key : ∀ (e' g' : Nat), 7 ≤ e' → e' ≤ 8 → g' ≤ 4 → WS t (p + 1) (popP t stk, e', h, x, g', pr, st) := by
      intro e' g' h7 h8 hg
      exact ⟨fun a ha => mem_up a1 a (pop_mem ha), fun _ => by omega, by omega, hg, by omega, fun w => by omega, fun _ => EP_pop hEP, fun w => by omega, fun w => by omega, fun _ => EP_ne (EP_pop hEP), fun _ => hx, fun _ => pop_pop t stk, Nat.le_trans (popP_len t stk) a13⟩
    by_cases q3 : isV (t p)
    · rw [if_pos q3] at hs; cases hs; exact key 8 g (by omega) (by omega) a4
    rw [if_neg q3] at hs
    by_cases q4 : isD (t p)
    · rw [if_pos q4] at hs; cases hs; exact key 7 1 (by omega) (by omega) (by omega)
    rw [if_neg q4] at hs; cases hs
  rw [if_neg e6] at hs
  have hpp := a12 (by omega)
  by_cases e7 : e = 7 ∧ isD (t p)
  · rw [if_pos e7] at hs
    by_cases q : g < 4
    · rw [if_pos q] at hs; cases hs
      exact ⟨mem_up a1, fun _ => by omega, by omega, by omega, by omega, fun w => by omega, fun _ => hEP, fun w => by omega, fun w => by omega, fun _ => hne, fun _ => hx, fun _ => hpp, a13⟩
    · rw [if_neg q] at hs; cases hs
  rw [if_neg e7] at hs
  by_cases q : isO (t p)
  · rw [if_pos q] at hs; cases hs
    exact ⟨mem_up a1, fun _ => by omega, by omega, a4, by omega, fun w => by omega, fun _ => hEP, fun w => by omega, fun w => by omega, fun _ => hne, fun _ => hx, fun w => by omega, a13⟩
  rw [if_neg q] at hs
  match stk, a1, hEP, a13, hpp, hs with
  | [], _, hEP, _, _, _ => exact absurd hEP id
  | a :: l, a1, hEP, a13, hpp, hs =>
    have hl : l.length + 1 ≤ 6 := a13
    have hs : (if t a.1 = 40 then (if t p = 41 then some (popP t l, 8, h, x, g, pr, st) else none) else if t p = x then (if t p = 123 then (if (a :: l).length < 6 then some ((h, p) :: a :: l, 2, h, x, g, pr, st) else none) else some (a :: l, 2, h, x, g, pr, st)) else none) = some r' := hs
    by_cases q1 : t a.1 = 40
    · rw [if_pos q1] at hs
      by_cases q2 : t p = 41
      · rw [if_pos q2] at hs; cases hs
        have hEl : EP t l := by
          rcases hEP with w | w
          · have := kd_1 q1; have := w.1.1; omega
          · exact w.2.2
        exact ⟨fun b hb => mem_up a1 b (List.mem_cons_of_mem _ (pop_mem hb)), fun _ => by omega, by omega, a4, by omega, fun w => by omega, fun _ => EP_pop hEl, fun w => by omega, fun w => by omega, fun _ => EP_ne (EP_pop hEl), fun _ => hx, fun _ => pop_pop t l, Nat.le_trans (popP_len t l) (by omega)⟩
      · rw [if_neg q2] at hs; cases hs
    · rw [if_neg q1] at hs
      have hEB : EB t (a :: l) := by
        rcases hEP with w | w
        · exact w
        · rcases w.1 with w | w
          · exact absurd (kd_40 w) q1
          · exact absurd (kd_P w) (pop_ne hpp)
      by_cases q2 : t p = x
      · rw [if_pos q2] at hs
        by_cases q3 : t p = 123
        · rw [if_pos q3] at hs
          by_cases q4 : (a :: l).length < 6
          · rw [if_pos q4] at hs; cases hs
            have hk : kd t h = 4 ∨ kd t h = 6 := by
              rcases hx with w | w
              · rw [← q2, q3] at w; exact absurd w (by decide)
              · exact w.2
            refine ⟨?_, fun _ => by omega, by omega, a4, by omega, fun _ => ⟨⟨show 3 ≤ kd t h by omega, show kd t h ≤ 6 by omega, ⟨fun w => by have w : kd t h = 3 := w; omega, fun w => absurd w (List.cons_ne_nil _ _)⟩, q3, ah⟩, hEB⟩, fun w => by omega, fun w => by omega, fun w => by omega, fun _ => List.cons_ne_nil _ _, fun w => by omega, fun w => by omega, q4⟩
            intro b hb
            rcases List.mem_cons.mp hb with rfl | hb
            · exact ⟨by omega, by omega⟩
            · exact mem_up a1 b hb
          · rw [if_neg q4] at hs; cases hs
        · rw [if_neg q3] at hs; cases hs
          exact ⟨mem_up a1, fun _ => by omega, by omega, a4, by omega, fun _ => hEB, fun w => by omega, fun w => by omega, fun w => by omega, fun _ => List.cons_ne_nil _ _, fun w => by omega, fun w => by omega, a13⟩
      · rw [if_neg q2] at hs; cases hs
