theorem ts_7 {S : CS} {k p n : Nat} {stk : List (Nat × Nat)} {h : Nat} {x : Int32} {g : Nat} {pr : Int32} {st : Nat} (hn : S.1 k 0 6 = nI n) (h60 : n ≤ 60) (hp : p < n) (hR : RC S (stk, 7, h, x, g, pr, st)) (hW : WR (S.1 k 1) p (stk, 7, h, x, g, pr, st)) (hc : isD (S.1 k 1 p)) : TK S k p (stk, 7, h, x, g, pr, st) (f_RD_takesDigit S) := by
  obtain ⟨hd, hl, hs, he, he8, h0, h4, h7⟩ := hR
  obtain ⟨wa, wh, ws, wg, wn⟩ := hW
  obtain ⟨h01, h02, h03⟩ := h0 (by omega)
  have h4 := h4 (by omega)
  have h7 := h7 rfl
  have e1 : f_RD_takesDigit S = if (4 : Int32) < (stR S 2 5 (S.2 2 5 + 1)).2 2 5 then (0, stR S 2 5 (S.2 2 5 + 1)) else (1, stR S 2 5 (S.2 2 5 + 1)) := rfl
  rw [e1, h7, nI_1, show (stR S 2 5 (nI (g + 1))).2 2 5 = nI (g + 1) from by simp [stR_at]]
  by_cases q : g < 4
  · rw [if_neg (show ¬ (4 : Int32) < nI (g + 1) from nI_nlt (a := 4) (by omega) (by decide))]
    refine TK_some (r' := (stk, 7, h, x, g + 1, pr, st)) (by simp [stepR, hc, q]) rfl ⟨?_, hl, ?_, ?_, by omega, fun _ => ⟨?_, ?_, ?_⟩, fun _ => ?_, fun _ => ?_⟩ (by simp [tb, stR_1])
    · simp [stR_at, hd]
    · rw [stR_23]; exact hs
    · simp [stR_at, he]
    · simp [stR_at, h01]
    · simp [stR_at, h02]
    · simp [stR_at, h03]
    · simp [stR_at, h4]
    · simp [stR_at]
  · rw [if_pos (show (4 : Int32) < nI (g + 1) from nI_lt (a := 4) (by omega) (by omega))]
    exact TK_none (by simp [stepR, hc, q]) rfl
theorem tk_spec {S : CS} {k p n : Nat} {r : RS} (hn : S.1 k 0 6 = nI n) (h60 : n ≤ 60) (hp : p < n) (hR : RC S r) (hW : WR (S.1 k 1) p r) : TK S k p r (f_RD_takes S k (nI p)) := by
  obtain ⟨stk, e, h, x, g, pr, st⟩ := r
  have he8 : e ≤ 8 := hR.2.2.2.2.1
  have he : S.2 2 2 = nI e := hR.2.2.2.1
  rcases (show e = 0 ∨ e = 1 ∨ e = 2 ∨ e = 3 ∨ e = 4 ∨ e = 5 ∨ e = 6 ∨ e = 7 ∨ e = 8 by omega) with rfl | rfl | rfl | rfl | rfl | rfl | rfl | rfl | rfl
  · exact ts_0 hn h60 hp hR
  · exact ts_1 hn h60 hp hR
  · rw [tk_2 he]; exact ts_23 (Or.inl rfl) hn h60 hp hR hW (fun z => by omega)
  · rw [tk_3 he, sgn hn h60 hp]
    by_cases q : S.1 k 1 p = 58
    · rw [if_pos q]
      obtain ⟨hd, hl, hs, he, he8, h0, h4, h7⟩ := hR
      obtain ⟨h01, h02, h03⟩ := h0 (by omega)
      show TK S k p _ (1, stR (stR S 2 3 (nI p)) 2 2 1)
      refine TK_some (r' := (stk, 1, p, x, g, pr, st)) (by simp [stepR, q]) rfl ⟨?_, hl, ?_, ?_, by omega, fun _ => ⟨?_, ?_, ?_⟩, fun z => by omega, fun z => by omega⟩ (by simp [tb, q, stR_1])
      · simp [stR_at, hd]
      · rw [stR_23, stR_23]; exact hs
      · rw [stR_at]; simp; rfl
      · simp [stR_at]
      · simp [stR_at, h02]
      · simp [stR_at, h03]
    · rw [if_neg q]
      exact ts_23 (Or.inr rfl) hn h60 hp hR hW (fun z => q z.2)
  · exact ts_4 hn h60 hp hR
  · exact ts_5 hn h60 hp hR
  · exact ts_6 hn h60 hp hR hW
  · rw [tk_7 he, sgn hn h60 hp]
    by_cases q : isD (S.1 k 1 p)
    · rw [if_neg (fun z => (gs_D _).1.mp z q)]
      exact ts_7 hn h60 hp hR hW q
    · rw [if_pos ((gs_D _).1.mpr q)]
      exact ts_o (Or.inl rfl) hn h60 hp hR hW (fun z => q z.2)
  · rw [tk_8 he]
    exact ts_o (Or.inr rfl) hn h60 hp hR hW (fun z => by omega)
/-- the kind of what is open at a place -/
def kd (t : Nat → Int32) (a : Nat) : Nat := if isL (t a) then 3 else if t a = 63 then 4 else if t a = 58 then 5 else if t a = 64 then 6 else if t a = 40 then 1 else if isP (t a) then 2 else 0
theorem kd_L {t : Nat → Int32} {a : Nat} : isL (t a) ↔ kd t a = 3 := by
  unfold kd
  constructor
  · intro h; rw [if_pos h]
  · intro h
    by_cases q : isL (t a)
    · exact q
    · rw [if_neg q] at h
      exfalso
      revert h
      split
      · omega
      · split
        · omega
        · split
          · omega
          · split
            · omega
            · split <;> omega
theorem kd_4 {t : Nat → Int32} {a : Nat} (h : t a = 63) : kd t a = 4 := by unfold kd; rw [h]; decide
theorem kd_5 {t : Nat → Int32} {a : Nat} (h : t a = 58) : kd t a = 5 := by unfold kd; rw [h]; decide
theorem kd_6 {t : Nat → Int32} {a : Nat} (h : t a = 64) : kd t a = 6 := by unfold kd; rw [h]; decide
theorem kd_1 {t : Nat → Int32} {a : Nat} (h : t a = 40) : kd t a = 1 := by unfold kd; rw [h]; decide
theorem kd_2 {t : Nat → Int32} {a : Nat} (h : isP (t a)) : kd t a = 2 := by unfold kd; rcases h with h | h <;> (rw [h]; decide)
theorem kd_63 {t : Nat → Int32} {a : Nat} (h : kd t a = 4) : t a = 63 := by
  unfold kd at h
  split at h
  · omega
  · split at h
    · assumption
    · split at h
      · omega
      · split at h
        · omega
        · split at h
          · omega
          · split at h <;> omega
theorem kd_58 {t : Nat → Int32} {a : Nat} (h : kd t a = 5) : t a = 58 := by
  unfold kd at h
  split at h
  · omega
  · split at h
    · omega
    · split at h
      · assumption
      · split at h
        · omega
        · split at h
          · omega
          · split at h <;> omega
theorem kd_64 {t : Nat → Int32} {a : Nat} (h : kd t a = 6) : t a = 64 := by
  unfold kd at h
  split at h
  · omega
  · split at h
    · omega
    · split at h
      · omega
      · split at h
        · assumption
        · split at h
          · omega
          · split at h <;> omega
theorem kd_40 {t : Nat → Int32} {a : Nat} (h : kd t a = 1) : t a = 40 := by
  unfold kd at h
  split at h
  · omega
  · split at h
    · omega
    · split at h
      · omega
      · split at h
        · omega
        · split at h
          · assumption
          · split at h <;> omega
theorem kd_P {t : Nat → Int32} {a : Nat} (h : kd t a = 2) : isP (t a) := by
  unfold kd at h
  split at h
  · omega
  · split at h
    · omega
    · split at h
      · omega
      · split at h
        · omega
        · split at h
          · omega
          · split at h
            · assumption
            · omega
/-- blocks alone, the lowest a procedure's -/
def EB (t : Nat → Int32) : List (Nat × Nat) → Prop
  | [] => True
  | a :: l => (3 ≤ kd t a.1 ∧ kd t a.1 ≤ 6 ∧ (kd t a.1 = 3 ↔ l = []) ∧ t a.2 = 123 ∧ a.1 < a.2) ∧ EB t l
/-- what an expression has open, above blocks -/
def EP (t : Nat → Int32) : List (Nat × Nat) → Prop
  | [] => False
  | a :: l => EB t (a :: l) ∨ ((kd t a.1 = 1 ∨ kd t a.1 = 2) ∧ a.1 = a.2 ∧ EP t l)
theorem EP_ne {t : Nat → Int32} {l : List (Nat × Nat)} (h : EP t l) : l ≠ [] := by
  intro q; subst q; exact h
theorem EB_EP {t : Nat → Int32} : ∀ {l : List (Nat × Nat)}, EB t l → l ≠ [] → EP t l
  | [], _, h => absurd rfl h
  | _ :: _, h, _ => Or.inl h
theorem EP_pop {t : Nat → Int32} : ∀ {l : List (Nat × Nat)}, EP t l → EP t (popP t l)
  | [], h => h
  | a :: l, h => by
    unfold popP
    by_cases q : isP (t a.1)
    · rw [if_pos q]
      rcases h with h | h
      · have := kd_2 q; have := h.1.1; omega
      · exact EP_pop h.2.2
    · rw [if_neg q]; exact h
theorem pop_y {t : Nat → Int32} {a : Nat × Nat} {l : List (Nat × Nat)} (q : isP (t a.1)) : popP t (a :: l) = popP t l := by
  rw [popP, if_pos q]
theorem pop_n {t : Nat → Int32} {a : Nat × Nat} {l : List (Nat × Nat)} (q : ¬ isP (t a.1)) : popP t (a :: l) = a :: l := by
  rw [popP, if_neg q]
theorem pop_pop (t : Nat → Int32) : ∀ l : List (Nat × Nat), popP t (popP t l) = popP t l
  | [] => rfl
  | a :: l => by
    by_cases q : isP (t a.1)
    · rw [pop_y q]; exact pop_pop t l
    · rw [pop_n q, pop_n q]
theorem EB_pop {t : Nat → Int32} : ∀ {l : List (Nat × Nat)}, EB t l → popP t l = l
  | [], _ => rfl
  | a :: l, h => by
    unfold popP
    rw [if_neg]
    intro q
    have := kd_2 q; have := h.1.1; omega
theorem pop_ne {t : Nat → Int32} {a : Nat × Nat} {l : List (Nat × Nat)} (h : popP t (a :: l) = a :: l) : ¬ isP (t a.1) := by
  intro q
  unfold popP at h
  rw [if_pos q] at h
  have := popP_len t l
  rw [h] at this
  simp at this
  omega
