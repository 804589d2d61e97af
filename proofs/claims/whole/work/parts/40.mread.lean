theorem stM_at (S : MS) (c i : Nat) (v : Int32) (c' i' : Nat) : stM S c i v c' i' = if c' = c then (if i' = i then v else S c' i') else S c' i' := by
  unfold stM va_up
  by_cases h : c' = c
  · subst h; simp [upd]
  · simp [h]
theorem stM_o {S : MS} {c i c' : Nat} {v : Int32} (h : c' ≠ c) : stM S c i v c' = S c' := by
  unfold stM va_up
  simp [h]
theorem stM_s {S : MS} {c i : Nat} {v : Int32} : stM S c i v c = upd (S c) i v := by
  unfold stM va_up
  simp
theorem stM_04 (S : MS) (i : Nat) (v : Int32) : stM S 0 i v 4 = S 4 := stM_o (by decide)
theorem stM_self {S : MS} {c i : Nat} {v : Int32} (h : S c i = v) : stM S c i v = S := by
  funext j
  by_cases q : j = c
  · subst q; rw [stM_s, upd_self h]
  · rw [stM_o q]
theorem stM_stM {S : MS} {c i : Nat} {v w : Int32} : stM (stM S c i v) c i w = stM S c i w := by
  funext j
  by_cases q : j = c
  · subst q; rw [stM_s, stM_s, stM_s, upd_upd]
  · rw [stM_o q, stM_o q, stM_o q]
theorem gm_in (c : Int32) (a b : Int32) : f_GM_in c a b = if a.toInt ≤ c.toInt ∧ c.toInt ≤ b.toInt then 1 else 0 := by
  unfold f_GM_in
  by_cases h1 : c < a
  · rw [if_pos h1]
    rw [Int32.lt_iff_toInt_lt] at h1
    rw [if_neg (by omega)]
  · rw [if_neg h1]
    rw [Int32.lt_iff_toInt_lt] at h1
    by_cases h2 : b < c
    · rw [if_pos h2]
      rw [Int32.lt_iff_toInt_lt] at h2
      rw [if_neg (by omega)]
    · rw [if_neg h2]
      rw [Int32.lt_iff_toInt_lt] at h2
      rw [if_pos (by omega)]
theorem gm_L (c : Int32) : f_GM_isLetter c = if isL c then 1 else 0 := gm_in c 65 90
theorem gm_V (c : Int32) : f_GM_isVariable c = if isV c then 1 else 0 := gm_in c 97 104
theorem gm_D (c : Int32) : f_GM_in c 48 57 = if isD c then 1 else 0 := gm_in c 48 57
theorem gm_O (c : Int32) : f_GM_isOperator c = 0 ↔ ¬ isO c := by
  unfold f_GM_isOperator isO
  by_cases h1 : c = 43
  · subst h1; decide
  · rw [if_neg h1]
    by_cases h2 : c = 45
    · subst h2; decide
    · rw [if_neg h2]
      by_cases h3 : c = 38
      · subst h3; decide
      · rw [if_neg h3]
        by_cases h4 : c = 124
        · subst h4; decide
        · rw [if_neg h4]
          by_cases h5 : c = 94
          · subst h5; decide
          · rw [if_neg h5]
            by_cases h6 : c = 60
            · subst h6; decide
            · rw [if_neg h6]
              by_cases h7 : c = 61
              · subst h7; decide
              · rw [if_neg h7]
                exact ⟨fun _ h => by rcases h with h | h | h | h | h | h | h <;> contradiction, fun _ => rfl⟩
/-- the reference's stack: kinds -/
def MK (t : Nat → Int32) (f : Nat → Int32) : List (Nat × Nat) → Prop
  | [] => True
  | a :: l => f l.length = nI (kd t a.1) ∧ MK t f l
theorem MK_upd {t f : Nat → Int32} {v : Int32} {n : Nat} : ∀ {l : List (Nat × Nat)}, MK t f l → l.length ≤ n → MK t (upd f n v) l
  | [], _, _ => trivial
  | a :: l, h, hn => by
    have hl : l.length + 1 ≤ n := hn
    refine ⟨?_, MK_upd h.2 (by omega)⟩
    rw [upd_o (by omega)]
    exact h.1
theorem MK_pop {t f : Nat → Int32} : ∀ {l : List (Nat × Nat)}, MK t f l → MK t f (popP t l)
  | [], _ => trivial
  | a :: l, h => by
    by_cases q : isP (t a.1)
    · rw [pop_y q]; exact MK_pop h.2
    · rw [pop_n q]; exact h
theorem kd_le (t : Nat → Int32) (a : Nat) : kd t a ≤ 6 := by
  unfold kd
  split
  · omega
  · split
    · omega
    · split
      · omega
      · split
        · omega
        · split
          · omega
          · split <;> omega
theorem push_s {M : MS} {n : Nat} {a b : Int32} (hd : M 0 5 = nI n) (hn : n < 6) : f_GM_push M a b = some (1, stM (stM (stM M 4 n a) 0 5 (nI (n + 1))) 0 6 b) := by
  unfold f_GM_push
  rw [hd, if_neg (show ¬ nI n = 6 from fun z => by have := (nI_eq (b := 6) (by omega) (by omega)).mp z; omega), ix_nI (by omega) (by omega), nI_clamp (by omega)]
  show some (1, stM (stM (stM M 4 n a) 0 5 (stM M 4 n a 0 5 + 1)) 0 6 b) = _
  rw [show stM M 4 n a 0 5 = nI n from by rw [stM_o (by decide)]; exact hd, nI_1]
theorem push_f {M : MS} {a b : Int32} (hd : M 0 5 = nI 6) : f_GM_push M a b = some (0, M) := by
  unfold f_GM_push
  rw [hd, if_pos (show nI 6 = 6 from rfl)]
theorem oe_q {t : Nat → Int32} {K : MS → Option MS} : ∀ (l : List (Nat × Nat)) (f : Nat) (M : MS), l.length < f → M 0 5 = nI l.length → l.length ≤ 6 → MK t (M 4) l → q_GM_operandEnds_0 f M K = K (stM M 0 5 (nI (popP t l).length)) := by
  intro l
  induction l with
  | nil =>
    intro f M hf hd hl hm
    obtain ⟨f, rfl⟩ : ∃ g, f = g + 1 := ⟨f - 1, by omega⟩
    rw [q_GM_operandEnds_0, hd, if_pos (show nI ([] : List (Nat × Nat)).length ≤ 0 from by decide)]
    rw [show stM M 0 5 (nI (popP t []).length) = M from stM_self hd]
  | cons a l ih =>
    intro f M hf hd hl hm
    obtain ⟨f, rfl⟩ : ∃ g, f = g + 1 := ⟨f - 1, by omega⟩
    have hf : l.length + 1 < f + 1 := hf
    have hl' : l.length + 1 ≤ 6 := hl
    rw [q_GM_operandEnds_0]
    rw [hd, if_neg (show ¬ nI (a :: l).length ≤ 0 from nI_nle (Nat.succ_pos _) (by show l.length + 1 < _; omega))]
    rw [show nI (a :: l).length - 1 = nI l.length from nI_pred _]
    show gd (ix (nI l.length) 8) (if M 4 (nI l.length).toNatClampNeg = 2 then q_GM_operandEnds_0 f (stM M 0 5 (nI l.length)) K else K M) = _
    rw [ix_nI (i := l.length) (n := 8) (by omega) (by omega)]
    show (if M 4 (nI l.length).toNatClampNeg = 2 then q_GM_operandEnds_0 f (stM M 0 5 (nI l.length)) K else K M) = _
    rw [nI_clamp (by omega), hm.1]
    by_cases q : isP (t a.1)
    · rw [kd_2 q, if_pos (show nI 2 = 2 from rfl), pop_y q]
      rw [ih f (stM M 0 5 (nI l.length)) (by omega) (by rw [stM_at]; simp) (by omega) (by rw [stM_04]; exact hm.2), stM_stM]
    · rw [if_neg (show ¬ nI (kd t a.1) = 2 from fun z => q (kd_P ((nI_eq (b := 2) (by have := kd_le t a.1; omega) (by omega)).mp z))), pop_n q]
      rw [show stM M 0 5 (nI (a :: l).length) = M from stM_self hd]
theorem oe_s {t : Nat → Int32} {l : List (Nat × Nat)} {M : MS} (hd : M 0 5 = nI l.length) (hl : l.length ≤ 6) (hm : MK t (M 4) l) : f_GM_operandEnds M = some (stM (stM M 0 5 (nI (popP t l).length)) 0 6 5) := by
  unfold f_GM_operandEnds
  rw [oe_q l (fz 2000) M (by rw [fz_eq]; omega) hd hl hm]
  rfl
def mst (e : Nat) : Nat := if e = 0 then 0 else if e = 1 then 1 else if e = 2 ∨ e = 3 then 2 else if e = 4 then 3 else if e = 5 then 6 else if e = 6 then 4 else 5
def kx (t : Nat → Int32) (h : Nat) (x : Int32) : Nat := if x = 59 then 0 else kd t h
/-- the reference's reader stands at r -/
def RM (t : Nat → Int32) (M : MS) : RS → Prop
  | (stk, e, h, x, g, _, _) => M 0 5 = nI stk.length ∧ MK t (M 4) stk ∧ M 0 6 = nI (mst e) ∧ M 0 9 = (if e = 3 then 1 else 0) ∧ (e = 1 → M 0 7 = nI (kd t h)) ∧ (4 ≤ e → e ≠ 5 → M 0 7 = nI (kx t h x)) ∧ (e = 7 → M 0 8 = nI g) ∧ (e = 8 → M 0 8 = 9)
def MT (t : Nat → Int32) (p : Nat) (r : RS) (o : Option (Int32 × MS)) : Prop := ∃ z M', o = some (z, M') ∧ match stepR t p r with
  | none => z = 0
  | some r' => z = 1 ∧ RM t M' r'
theorem MT_none {t : Nat → Int32} {p : Nat} {r : RS} {o : Option (Int32 × MS)} {M' : MS} (h : stepR t p r = none) (ho : o = some (0, M')) : MT t p r o := ⟨0, M', ho, by rw [h]⟩
theorem MT_some {t : Nat → Int32} {p : Nat} {r r' : RS} {o : Option (Int32 × MS)} {M' : MS} (h : stepR t p r = some r') (ho : o = some (1, M')) (hr : RM t M' r') : MT t p r o := ⟨1, M', ho, by rw [h]; exact ⟨rfl, hr⟩⟩
