/-! The reader as a machine over plain numbers: a stack of (head, own place), what is expected, the head, the expression's end, the digits, the procedure, its statements. -/
abbrev RS : Type := List (Nat × Nat) × Nat × Nat × Int32 × Nat × Int32 × Nat
abbrev isL (c : Int32) : Prop := 65 ≤ c.toInt ∧ c.toInt ≤ 90
abbrev isV (c : Int32) : Prop := 97 ≤ c.toInt ∧ c.toInt ≤ 104
abbrev isD (c : Int32) : Prop := 48 ≤ c.toInt ∧ c.toInt ≤ 57
abbrev isP (c : Int32) : Prop := c = 126 ∨ c = 45
abbrev isO (c : Int32) : Prop := c = 38 ∨ c = 43 ∨ c = 45 ∨ c = 60 ∨ c = 61 ∨ c = 94 ∨ c = 124
theorem gs_L (c : Int32) : (f_GS_isLetter c = 0 ↔ ¬ isL c) ∧ bl (f_GS_isLetter c) := by
  unfold f_GS_isLetter isL
  by_cases h1 : c < 65
  · rw [if_pos h1]; have := i_lt 65 rfl h1; exact ⟨⟨fun _ => by omega, fun _ => rfl⟩, Or.inl rfl⟩
  · rw [if_neg h1]; have a1 := i_nlt 65 rfl h1
    by_cases h2 : (90 : Int32) < c
    · rw [if_pos h2]
      rw [Int32.lt_iff_toInt_lt, show (90 : Int32).toInt = 90 from rfl] at h2
      exact ⟨⟨fun _ => by omega, fun _ => rfl⟩, Or.inl rfl⟩
    · rw [if_neg h2]
      rw [Int32.lt_iff_toInt_lt, show (90 : Int32).toInt = 90 from rfl] at h2
      exact ⟨⟨fun h => absurd h (by decide), fun h => absurd ⟨a1, by omega⟩ h⟩, Or.inr rfl⟩
theorem gs_V (c : Int32) : (f_GS_isVariable c = 0 ↔ ¬ isV c) ∧ bl (f_GS_isVariable c) := by
  unfold f_GS_isVariable isV
  by_cases h1 : c < 97
  · rw [if_pos h1]; have := i_lt 97 rfl h1; exact ⟨⟨fun _ => by omega, fun _ => rfl⟩, Or.inl rfl⟩
  · rw [if_neg h1]; have a1 := i_nlt 97 rfl h1
    by_cases h2 : (104 : Int32) < c
    · rw [if_pos h2]
      rw [Int32.lt_iff_toInt_lt, show (104 : Int32).toInt = 104 from rfl] at h2
      exact ⟨⟨fun _ => by omega, fun _ => rfl⟩, Or.inl rfl⟩
    · rw [if_neg h2]
      rw [Int32.lt_iff_toInt_lt, show (104 : Int32).toInt = 104 from rfl] at h2
      exact ⟨⟨fun h => absurd h (by decide), fun h => absurd ⟨a1, by omega⟩ h⟩, Or.inr rfl⟩
theorem gs_D (c : Int32) : (f_GS_isDigit c = 0 ↔ ¬ isD c) ∧ bl (f_GS_isDigit c) := by
  unfold f_GS_isDigit isD
  by_cases h1 : c < 48
  · rw [if_pos h1]; have := i_lt 48 rfl h1; exact ⟨⟨fun _ => by omega, fun _ => rfl⟩, Or.inl rfl⟩
  · rw [if_neg h1]; have a1 := i_nlt 48 rfl h1
    by_cases h2 : (57 : Int32) < c
    · rw [if_pos h2]
      rw [Int32.lt_iff_toInt_lt, show (57 : Int32).toInt = 57 from rfl] at h2
      exact ⟨⟨fun _ => by omega, fun _ => rfl⟩, Or.inl rfl⟩
    · rw [if_neg h2]
      rw [Int32.lt_iff_toInt_lt, show (57 : Int32).toInt = 57 from rfl] at h2
      exact ⟨⟨fun h => absurd h (by decide), fun h => absurd ⟨a1, by omega⟩ h⟩, Or.inr rfl⟩
theorem gs_P (c : Int32) : (f_GS_isPrefix c = 0 ↔ ¬ isP c) ∧ bl (f_GS_isPrefix c) := by
  unfold f_GS_isPrefix isP
  by_cases h1 : c = 126
  · rw [if_pos h1]; exact ⟨⟨fun h => absurd h (by decide), fun h => absurd (Or.inl h1) h⟩, Or.inr rfl⟩
  · rw [if_neg h1]
    by_cases h2 : c = 45
    · rw [if_pos h2]; exact ⟨⟨fun h => absurd h (by decide), fun h => absurd (Or.inr h2) h⟩, Or.inr rfl⟩
    · rw [if_neg h2]; exact ⟨⟨fun _ h => h.elim h1 h2, fun _ => rfl⟩, Or.inl rfl⟩
theorem gs_O (c : Int32) : f_GS_operationOf c = (-1) ↔ ¬ isO c := by
  unfold f_GS_operationOf isO
  by_cases h1 : c = 38
  · rw [if_pos h1]; exact ⟨fun h => absurd h (by decide), fun h => absurd (Or.inl h1) h⟩
  · rw [if_neg h1]
    by_cases h2 : c = 43
    · rw [if_pos h2]; exact ⟨fun h => absurd h (by decide), fun h => absurd (Or.inr (Or.inl h2)) h⟩
    · rw [if_neg h2]
      by_cases h3 : c = 45
      · rw [if_pos h3]; exact ⟨fun h => absurd h (by decide), fun h => absurd (Or.inr (Or.inr (Or.inl h3))) h⟩
      · rw [if_neg h3]
        by_cases h4 : c = 60
        · rw [if_pos h4]; exact ⟨fun h => absurd h (by decide), fun h => absurd (Or.inr (Or.inr (Or.inr (Or.inl h4)))) h⟩
        · rw [if_neg h4]
          by_cases h5 : c = 61
          · rw [if_pos h5]; exact ⟨fun h => absurd h (by decide), fun h => absurd (Or.inr (Or.inr (Or.inr (Or.inr (Or.inl h5))))) h⟩
          · rw [if_neg h5]
            by_cases h6 : c = 94
            · rw [if_pos h6]; exact ⟨fun h => absurd h (by decide), fun h => absurd (Or.inr (Or.inr (Or.inr (Or.inr (Or.inr (Or.inl h6)))))) h⟩
            · rw [if_neg h6]
              by_cases h7 : c = 124
              · rw [if_pos h7]; exact ⟨fun h => absurd h (by decide), fun h => absurd (Or.inr (Or.inr (Or.inr (Or.inr (Or.inr (Or.inr h7)))))) h⟩
              · rw [if_neg h7]
                exact ⟨fun _ h => by rcases h with h | h | h | h | h | h | h <;> contradiction, fun _ => rfl⟩
theorem ix_nI {i n : Nat} (h : i < n) (hn : n < 2 ^ 31) : ix (nI i) n = true := by
  unfold ix
  rw [nI_toInt (by omega)]
  simp only [Bool.and_eq_true, decide_eq_true_eq]
  omega
