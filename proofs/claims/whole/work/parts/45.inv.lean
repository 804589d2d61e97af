theorem inv_0 {t : Nat → Int32} {p : Nat} {stk : List (Nat × Nat)} {h : Nat} {x : Int32} {g : Nat} {pr : Int32} {st : Nat} {r' : RS} (hs : stepR t p (stk, 0, h, x, g, pr, st) = some r') : isL (t p) ∧ r' = (stk, 1, p, x, g, t p - 65, 0) := by
  have hs : (if isL (t p) then some (stk, 1, p, x, g, t p - 65, 0) else none) = some r' := hs
  by_cases q : isL (t p)
  · rw [if_pos q] at hs; cases hs; exact ⟨q, rfl⟩
  · rw [if_neg q] at hs; cases hs
theorem inv_1 {t : Nat → Int32} {p : Nat} {stk : List (Nat × Nat)} {h : Nat} {x : Int32} {g : Nat} {pr : Int32} {st : Nat} {r' : RS} (hs : stepR t p (stk, 1, h, x, g, pr, st) = some r') : t p = 123 ∧ stk.length < 6 ∧ r' = ((h, p) :: stk, 2, h, x, g, pr, st) := by
  have hs : (if t p = 123 then (if stk.length < 6 then some ((h, p) :: stk, 2, h, x, g, pr, st) else none) else none) = some r' := hs
  by_cases q : t p = 123
  · rw [if_pos q] at hs
    by_cases q2 : stk.length < 6
    · rw [if_pos q2] at hs; cases hs; exact ⟨q, q2, rfl⟩
    · rw [if_neg q2] at hs; cases hs
  · rw [if_neg q] at hs; cases hs
theorem inv_4 {t : Nat → Int32} {p : Nat} {stk : List (Nat × Nat)} {h : Nat} {x : Int32} {g : Nat} {pr : Int32} {st : Nat} {r' : RS} (hs : stepR t p (stk, 4, h, x, g, pr, st) = some r') : t p = 61 ∧ r' = (stk, 6, h, x, g, pr, st) := by
  have hs : (if 4 = 3 ∧ t p = 58 then some (stk, 1, p, x, g, pr, st) else if t p = 61 then some (stk, 6, h, x, g, pr, st) else none) = some r' := hs
  rw [if_neg (fun z => by omega)] at hs
  by_cases q : t p = 61
  · rw [if_pos q] at hs; cases hs; exact ⟨q, rfl⟩
  · rw [if_neg q] at hs; cases hs
theorem inv_5 {t : Nat → Int32} {p : Nat} {stk : List (Nat × Nat)} {h : Nat} {x : Int32} {g : Nat} {pr : Int32} {st : Nat} {r' : RS} (hs : stepR t p (stk, 5, h, x, g, pr, st) = some r') : t p = 59 ∧ r' = (stk, 2, h, x, g, pr, st) := by
  have hs : (if 5 = 3 ∧ t p = 58 then some (stk, 1, p, x, g, pr, st) else if t p = 59 then some (stk, 2, h, x, g, pr, st) else none) = some r' := hs
  rw [if_neg (fun z => by omega)] at hs
  by_cases q : t p = 59
  · rw [if_pos q] at hs; cases hs; exact ⟨q, rfl⟩
  · rw [if_neg q] at hs; cases hs
theorem inv_6 {t : Nat → Int32} {p : Nat} {stk : List (Nat × Nat)} {h : Nat} {x : Int32} {g : Nat} {pr : Int32} {st : Nat} {r' : RS} (hs : stepR t p (stk, 6, h, x, g, pr, st) = some r') :
    ((t p = 40 ∨ isP (t p)) ∧ stk.length < 6 ∧ r' = ((p, p) :: stk, 6, h, x, g, pr, st)) ∨ (isV (t p) ∧ r' = (popP t stk, 8, h, x, g, pr, st)) ∨ (isD (t p) ∧ r' = (popP t stk, 7, h, x, 1, pr, st)) := by
  have hs : (if 6 = 3 ∧ t p = 58 then some (stk, 1, p, x, g, pr, st) else if t p = 40 ∨ isP (t p) then (if stk.length < 6 then some ((p, p) :: stk, 6, h, x, g, pr, st) else none) else if isV (t p) then some (popP t stk, 8, h, x, g, pr, st) else if isD (t p) then some (popP t stk, 7, h, x, 1, pr, st) else none) = some r' := hs
  rw [if_neg (fun z => by omega)] at hs
  by_cases q : t p = 40 ∨ isP (t p)
  · rw [if_pos q] at hs
    by_cases q2 : stk.length < 6
    · rw [if_pos q2] at hs; cases hs; exact Or.inl ⟨q, q2, rfl⟩
    · rw [if_neg q2] at hs; cases hs
  · rw [if_neg q] at hs
    by_cases q2 : isV (t p)
    · rw [if_pos q2] at hs; cases hs; exact Or.inr (Or.inl ⟨q2, rfl⟩)
    · rw [if_neg q2] at hs
      by_cases q3 : isD (t p)
      · rw [if_pos q3] at hs; cases hs; exact Or.inr (Or.inr ⟨q3, rfl⟩)
      · rw [if_neg q3] at hs; cases hs
theorem inv_23 {t : Nat → Int32} {p : Nat} {stk : List (Nat × Nat)} {e h : Nat} {x : Int32} {g : Nat} {pr : Int32} {st : Nat} {r' : RS} (he : e = 2 ∨ e = 3) (hs : stepR t p (stk, e, h, x, g, pr, st) = some r') :
    (e = 3 ∧ t p = 58 ∧ r' = (stk, 1, p, x, g, pr, st)) ∨ (∃ a l, t p = 125 ∧ stk = a :: l ∧ r' = (l, (if isL (t a.1) then 0 else if t a.1 = 63 then 3 else 2), h, x, g, pr, st)) ∨ (t p ≠ 58 ∧ t p ≠ 125 ∧
      ((isV (t p) ∧ r' = (stk, 4, p, 59, g, pr, st + 1)) ∨ (isL (t p) ∧ r' = (stk, 5, p, 59, g, pr, st + 1)) ∨ (t p = 33 ∧ r' = (stk, 6, p, 59, g, pr, st + 1)) ∨ ((t p = 63 ∨ t p = 64) ∧ r' = (stk, 6, p, 123, g, pr, st + 1)))) := by
  have n0 : ¬ e = 0 := by omega
  have n1 : ¬ e = 1 := by omega
  simp only [stepR, if_neg n0, if_neg n1, if_pos he] at hs
  by_cases q : e = 3 ∧ t p = 58
  · rw [if_pos q] at hs; cases hs; exact Or.inl ⟨q.1, q.2, rfl⟩
  · rw [if_neg q] at hs
    by_cases q0 : t p = 125
    · rw [if_pos q0] at hs
      cases stk with
      | nil => cases hs
      | cons a l => cases hs; exact Or.inr (Or.inl ⟨a, l, q0, rfl, rfl⟩)
    · rw [if_neg q0] at hs
      refine Or.inr (Or.inr ?_)
      by_cases q1 : isV (t p)
      · rw [if_pos q1] at hs; cases hs
        exact ⟨fun z => by rw [z] at q1; exact absurd q1 (by decide), q0, Or.inl ⟨q1, rfl⟩⟩
      · rw [if_neg q1] at hs
        by_cases q2 : isL (t p)
        · rw [if_pos q2] at hs; cases hs
          exact ⟨fun z => by rw [z] at q2; exact absurd q2 (by decide), q0, Or.inr (Or.inl ⟨q2, rfl⟩)⟩
        · rw [if_neg q2] at hs
          by_cases q3 : t p = 33
          · rw [if_pos q3] at hs; cases hs
            exact ⟨fun z => by rw [z] at q3; exact absurd q3 (by decide), q0, Or.inr (Or.inr (Or.inl ⟨q3, rfl⟩))⟩
          · rw [if_neg q3] at hs
            by_cases q4 : t p = 63 ∨ t p = 64
            · rw [if_pos q4] at hs; cases hs
              exact ⟨fun z => by rw [z] at q4; exact absurd q4 (by decide), q0, Or.inr (Or.inr (Or.inr ⟨q4, rfl⟩))⟩
            · rw [if_neg q4] at hs; cases hs
theorem inv_78 {t : Nat → Int32} {p : Nat} {stk : List (Nat × Nat)} {e h : Nat} {x : Int32} {g : Nat} {pr : Int32} {st : Nat} {r' : RS} (he : e = 7 ∨ e = 8) (hs : stepR t p (stk, e, h, x, g, pr, st) = some r') :
    (e = 7 ∧ isD (t p) ∧ g < 4 ∧ r' = (stk, 7, h, x, g + 1, pr, st)) ∨ (¬ (e = 7 ∧ isD (t p)) ∧
      ((isO (t p) ∧ r' = (stk, 6, h, x, g, pr, st)) ∨ (∃ a l, ¬ isO (t p) ∧ stk = a :: l ∧ t a.1 = 40 ∧ t p = 41 ∧ r' = (popP t l, 8, h, x, g, pr, st)) ∨
       (∃ a l, ¬ isO (t p) ∧ stk = a :: l ∧ t a.1 ≠ 40 ∧ t p = x ∧ t p = 123 ∧ stk.length < 6 ∧ r' = ((h, p) :: stk, 2, h, x, g, pr, st)) ∨
       (∃ a l, ¬ isO (t p) ∧ stk = a :: l ∧ t a.1 ≠ 40 ∧ t p = x ∧ t p ≠ 123 ∧ r' = (stk, 2, h, x, g, pr, st)))) := by
  have n0 : ¬ e = 0 := by omega
  have n1 : ¬ e = 1 := by omega
  have n3 : ¬ (e = 3 ∧ t p = 58) := fun z => by omega
  have n2 : ¬ (e = 2 ∨ e = 3) := by omega
  have n4 : ¬ e = 4 := by omega
  have n5 : ¬ e = 5 := by omega
  have n6 : ¬ e = 6 := by omega
  simp only [stepR, if_neg n0, if_neg n1, if_neg n3, if_neg n2, if_neg n4, if_neg n5, if_neg n6] at hs
  by_cases q : e = 7 ∧ isD (t p)
  · rw [if_pos q] at hs
    by_cases q2 : g < 4
    · rw [if_pos q2] at hs; cases hs; exact Or.inl ⟨q.1, q.2, q2, rfl⟩
    · rw [if_neg q2] at hs; cases hs
  · rw [if_neg q] at hs
    refine Or.inr ⟨q, ?_⟩
    by_cases q1 : isO (t p)
    · rw [if_pos q1] at hs; cases hs; exact Or.inl ⟨q1, rfl⟩
    · rw [if_neg q1] at hs
      refine Or.inr ?_
      cases stk with
      | nil => cases hs
      | cons a l =>
        by_cases q2 : t a.1 = 40
        · simp only [if_pos q2] at hs
          by_cases q3 : t p = 41
          · rw [if_pos q3] at hs; cases hs; exact Or.inl ⟨a, l, q1, rfl, q2, q3, rfl⟩
          · rw [if_neg q3] at hs; cases hs
        · simp only [if_neg q2] at hs
          by_cases q3 : t p = x
          · rw [if_pos q3] at hs
            by_cases q4 : t p = 123
            · rw [if_pos q4] at hs
              by_cases q5 : (a :: l).length < 6
              · rw [if_pos q5] at hs; cases hs; exact Or.inr (Or.inl ⟨a, l, q1, rfl, q2, q3, q4, q5, rfl⟩)
              · rw [if_neg q5] at hs; cases hs
            · rw [if_neg q4] at hs; cases hs; exact Or.inr (Or.inr ⟨a, l, q1, rfl, q2, q3, q4, rfl⟩)
          · rw [if_neg q3] at hs; cases hs
/-- the reader before sign p -/
noncomputable def rr (t : Nat → Int32) (p : Nat) : RS := (runR t p).getD r_0
/-- a whole text -/
def WT (t : Nat → Int32) (n : Nat) : Prop := n ≤ 60 ∧ ∃ r, runR t n = some r ∧ r.2.1 = 0
theorem rr_of {t : Nat → Int32} {p : Nat} {r : RS} (h : runR t p = some r) : rr t p = r := by unfold rr; rw [h]; rfl
theorem WT.run {t : Nat → Int32} {n p : Nat} (h : WT t n) (hp : p ≤ n) : runR t p = some (rr t p) := by
  obtain ⟨_, r, hr, _⟩ := h
  obtain ⟨r1, h1⟩ := runR_le hr hp
  rw [rr_of h1]; exact h1
theorem WT.step {t : Nat → Int32} {n p : Nat} (h : WT t n) (hp : p < n) : stepR t p (rr t p) = some (rr t (p + 1)) := by
  rw [← runR_s (h.run (Nat.le_of_lt hp))]; exact h.run hp
theorem WT.ws {t : Nat → Int32} {n p : Nat} (h : WT t n) (hp : p ≤ n) : WS t p (rr t p) := WS_run (h.run hp)
theorem WT.fin {t : Nat → Int32} {n : Nat} (h : WT t n) : (rr t n).2.1 = 0 ∧ (rr t n).1 = [] := by
  obtain ⟨h60, r, hr, h0⟩ := id h
  have hw := h.ws (Nat.le_refl n)
  rw [rr_of hr] at hw ⊢
  obtain ⟨stk, e, hh, x, g, pr, st⟩ := r
  exact ⟨h0, hw.2.2.2.2.2.2.2.1 h0⟩
theorem WT.lt {t : Nat → Int32} {n p : Nat} (h : WT t n) (hp : p ≤ n) (he : (rr t p).2.1 ≠ 0) : p < n := by
  refine Nat.lt_of_le_of_ne hp fun q => he ?_
  rw [q]; exact h.fin.1
