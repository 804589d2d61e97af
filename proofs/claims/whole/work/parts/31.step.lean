def popP (t : Nat → Int32) : List (Nat × Nat) → List (Nat × Nat)
  | [] => []
  | a :: l => if isP (t a.1) then popP t l else a :: l
/-- one sign -/
def stepR (t : Nat → Int32) (p : Nat) : RS → Option RS
  | (stk, e, h, x, g, pr, st) =>
    if e = 0 then (if isL (t p) then some (stk, 1, p, x, g, t p - 65, 0) else none)
    else if e = 1 then (if t p = 123 then (if stk.length < 6 then some ((h, p) :: stk, 2, h, x, g, pr, st) else none) else none)
    else if e = 3 ∧ t p = 58 then some (stk, 1, p, x, g, pr, st)
    else if e = 2 ∨ e = 3 then
      (if t p = 125 then (match stk with
        | [] => none
        | a :: l => some (l, (if isL (t a.1) then 0 else if t a.1 = 63 then 3 else 2), h, x, g, pr, st))
      else if isV (t p) then some (stk, 4, p, 59, g, pr, st + 1)
      else if isL (t p) then some (stk, 5, p, 59, g, pr, st + 1)
      else if t p = 33 then some (stk, 6, p, 59, g, pr, st + 1)
      else if t p = 63 ∨ t p = 64 then some (stk, 6, p, 123, g, pr, st + 1)
      else none)
    else if e = 4 then (if t p = 61 then some (stk, 6, h, x, g, pr, st) else none)
    else if e = 5 then (if t p = 59 then some (stk, 2, h, x, g, pr, st) else none)
    else if e = 6 then
      (if t p = 40 ∨ isP (t p) then (if stk.length < 6 then some ((p, p) :: stk, 6, h, x, g, pr, st) else none)
      else if isV (t p) then some (popP t stk, 8, h, x, g, pr, st)
      else if isD (t p) then some (popP t stk, 7, h, x, 1, pr, st)
      else none)
    else if e = 7 ∧ isD (t p) then (if g < 4 then some (stk, 7, h, x, g + 1, pr, st) else none)
    else
      (if isO (t p) then some (stk, 6, h, x, g, pr, st)
      else match stk with
        | [] => none
        | a :: l => if t a.1 = 40 then (if t p = 41 then some (popP t l, 8, h, x, g, pr, st) else none)
          else if t p = x then (if t p = 123 then (if (a :: l).length < 6 then some ((h, p) :: a :: l, 2, h, x, g, pr, st) else none) else some (a :: l, 2, h, x, g, pr, st))
          else none)
/-- the stack in the class's row: the top lies behind the others -/
def SK (f : Nat → Int32) : List (Nat × Nat) → Prop
  | [] => True
  | a :: l => f l.length = nI a.1 ∧ SK f l
theorem SK_upd {f : Nat → Int32} {v : Int32} {n : Nat} : ∀ {l : List (Nat × Nat)}, SK f l → l.length ≤ n → SK (upd f n v) l
  | [], _, _ => trivial
  | a :: l, h, hn => by
    have hl : l.length + 1 ≤ n := hn
    refine ⟨?_, SK_upd h.2 (by omega)⟩
    rw [upd_o (by omega)]
    exact h.1
theorem popP_len (t : Nat → Int32) : ∀ l : List (Nat × Nat), (popP t l).length ≤ l.length
  | [] => Nat.le_refl _
  | a :: l => by
    unfold popP
    by_cases h : isP (t a.1)
    · rw [if_pos h]; exact Nat.le_trans (popP_len t l) (Nat.le_succ _)
    · rw [if_neg h]; exact Nat.le_refl _
theorem SK_popP {f : Nat → Int32} {t : Nat → Int32} : ∀ {l : List (Nat × Nat)}, SK f l → SK f (popP t l)
  | [], _ => trivial
  | a :: l, h => by
    unfold popP
    by_cases q : isP (t a.1)
    · rw [if_pos q]; exact SK_popP h.2
    · rw [if_neg q]; exact h
theorem stR_at (S : CS) (c i : Nat) (v : Int32) (c' i' : Nat) : (stR S c i v).2 c' i' = if c' = c then (if i' = i then v else S.2 c' i') else S.2 c' i' := by
  by_cases h : c' = c
  · subst h; rw [stR_s, if_pos rfl]; rfl
  · rw [stR_o h, if_neg h]
theorem stR_1 (S : CS) (c i : Nat) (v : Int32) : (stR S c i v).1 = S.1 := rfl
theorem upd_self {f : Nat → Int32} {i : Nat} {v : Int32} (h : f i = v) : upd f i v = f := by
  funext j
  by_cases q : j = i
  · subst q; rw [upd_s, h]
  · rw [upd_o q]
theorem upd_upd {f : Nat → Int32} {i : Nat} {v w : Int32} : upd (upd f i v) i w = upd f i w := by
  funext j
  by_cases q : j = i
  · subst q; rw [upd_s, upd_s]
  · rw [upd_o q, upd_o q, upd_o q]
theorem stR_self {S : CS} {c i : Nat} {v : Int32} (h : S.2 c i = v) : stR S c i v = S := by
  unfold stR
  rw [upd_self h]
  have : va_up S.2 c (S.2 c) = S.2 := by
    funext j
    by_cases q : j = c
    · subst q; simp [va_up]
    · simp [va_up, q]
  rw [this]
theorem stR_stR {S : CS} {c i : Nat} {v w : Int32} : stR (stR S c i v) c i w = stR S c i w := by
  show (S.1, va_up (va_up S.2 c (upd (S.2 c) i v)) c (upd (va_up S.2 c (upd (S.2 c) i v) c) i w)) = (S.1, va_up S.2 c (upd (S.2 c) i w))
  have e : va_up S.2 c (upd (S.2 c) i v) c = upd (S.2 c) i v := by simp [va_up]
  rw [e, upd_upd]
  have : va_up (va_up S.2 c (upd (S.2 c) i v)) c (upd (S.2 c) i w) = va_up S.2 c (upd (S.2 c) i w) := by
    funext j
    by_cases q : j = c
    · subst q; simp [va_up]
    · simp [va_up, q]
  rw [this]
/-- the class's reader stands at r -/
def RC (S : CS) : RS → Prop
  | (stk, e, h, x, g, pr, st) => S.2 2 1 = nI stk.length ∧ stk.length ≤ 6 ∧ SK (S.2 3) stk ∧ S.2 2 2 = nI e ∧ e ≤ 8 ∧ (e ≠ 0 → S.2 2 3 = nI h ∧ S.2 2 6 = pr ∧ S.2 2 7 = nI st) ∧ (4 ≤ e → S.2 2 4 = x) ∧ (e = 7 → S.2 2 5 = nI g)
/-- what the stack and the head may be before sign p -/
def WR (t : Nat → Int32) (p : Nat) : RS → Prop
  | (stk, e, h, x, g, pr, st) => (∀ a ∈ stk, a.1 < p ∧ a.2 < p) ∧ (e ≠ 0 → h < p) ∧ st ≤ p ∧ g ≤ 4 ∧ (2 ≤ e → stk ≠ [])
theorem sgn {S : CS} {k p n : Nat} (hn : S.1 k 0 6 = nI n) (h60 : n ≤ 60) (hp : p < n) : f_MT_signAt S k (nI p) = S.1 k 1 p := by
  unfold f_MT_signAt
  rw [if_neg (nI_pos (by omega)), hn, if_neg (nI_ge hp (by omega))]
  show S.1 k 1 (nI p).toNatClampNeg = _
  rw [nI_clamp (by omega)]
theorem sgn_out {S : CS} {k p n : Nat} (hn : S.1 k 0 6 = nI n) (hp : n ≤ p) (hb : p < 2 ^ 31) : f_MT_signAt S k (nI p) = 0 := by
  unfold f_MT_signAt
  rw [if_neg (nI_pos hb), hn, if_pos (nI_le hp hb)]
theorem plc {S : CS} {k p n : Nat} (hn : S.1 k 0 6 = nI n) (h60 : n ≤ 60) (hp : p < n) : f_MT_isPlace S k (nI p) = 1 := by
  unfold f_MT_isPlace
  rw [if_neg (nI_pos (by omega)), hn, if_neg (nI_ge hp (by omega))]
theorem lastO {S : CS} {k n : Nat} {a : Nat × Nat} {l : List (Nat × Nat)} (hn : S.1 k 0 6 = nI n) (h60 : n ≤ 60) (hd : S.2 2 1 = nI (a :: l).length) (hl : (a :: l).length ≤ 6) (hs : SK (S.2 3) (a :: l)) (ha : a.1 < n) : f_RD_lastOpen S k = S.1 k 1 a.1 := by
  have hl : l.length + 1 ≤ 6 := hl
  unfold f_RD_lastOpen
  rw [hd, if_neg (show ¬ nI (a :: l).length ≤ 0 from nI_nle (Nat.succ_pos _) (by show l.length + 1 < _; omega))]
  show f_MT_signAt S k (S.2 3 (nI (l.length + 1) - 1).toNatClampNeg) = _
  rw [nI_pred, nI_clamp (by omega), hs.1]
  exact sgn hn h60 ha
theorem ends_q {k n : Nat} {nx : Int32} : ∀ (l : List (Nat × Nat)) (f : Nat) (S : CS), S.1 k 0 6 = nI n → n ≤ 60 → l.length < f → S.2 2 1 = nI l.length → l.length ≤ 6 → SK (S.2 3) l → (∀ a ∈ l, a.1 < n) →
    q_RD_endsOperand_0 f S k nx = (1, stR (stR S 2 1 (nI (popP (S.1 k 1) l).length)) 2 2 nx) := by
  intro l
  induction l with
  | nil =>
    intro f S hn h60 hf hd hl hs ha
    obtain ⟨f, rfl⟩ : ∃ g, f = g + 1 := ⟨f - 1, by omega⟩
    rw [q_RD_endsOperand_0, hd, if_pos (show nI ([] : List (Nat × Nat)).length ≤ 0 from by decide)]
    show (1, stR S 2 2 nx) = _
    rw [show stR S 2 1 (nI (popP (S.1 k 1) []).length) = S from stR_self hd]
  | cons a l ih =>
    intro f S hn h60 hf hd hl hs ha
    obtain ⟨f, rfl⟩ : ∃ g, f = g + 1 := ⟨f - 1, by omega⟩
    have hf : l.length + 1 < f + 1 := hf
    have hl' : l.length + 1 ≤ 6 := hl
    rw [q_RD_endsOperand_0]
    rw [if_neg (show ¬ S.2 2 1 ≤ 0 from by rw [hd]; exact nI_nle (Nat.succ_pos _) (by show l.length + 1 < _; omega))]
    have hlo := lastO hn h60 hd hl hs (ha a List.mem_cons_self)
    show (if f_GS_isPrefix (f_RD_lastOpen S k) = 0 then _ else _) = _
    rw [hlo]
    unfold popP
    by_cases q : isP (S.1 k 1 a.1)
    · rw [if_neg (fun z => (gs_P _).1.mp z q), if_pos q]
      show q_RD_endsOperand_0 f (stR S 2 1 (S.2 2 1 - 1)) k nx = _
      rw [hd, show nI (a :: l).length - 1 = nI l.length from nI_pred _]
      rw [ih f (stR S 2 1 (nI l.length)) hn h60 (by omega) (by rw [stR_at]; simp) (by omega) (by rw [stR_o (by decide)]; exact hs.2) (fun b hb => ha b (List.mem_cons_of_mem _ hb))]
      rw [stR_stR]
      rfl
    · rw [if_pos ((gs_P _).1.mpr q), if_neg q]
      show (1, stR S 2 2 nx) = _
      rw [stR_self (v := nI (a :: l).length) hd]
theorem ends_s {k n : Nat} {nx : Int32} {l : List (Nat × Nat)} {S : CS} (hn : S.1 k 0 6 = nI n) (h60 : n ≤ 60) (hd : S.2 2 1 = nI l.length) (hl : l.length ≤ 6) (hs : SK (S.2 3) l) (ha : ∀ a ∈ l, a.1 < n) :
    f_RD_endsOperand S k nx = (1, stR (stR S 2 1 (nI (popP (S.1 k 1) l).length)) 2 2 nx) := by
  unfold f_RD_endsOperand
  exact ends_q l (fz 7) S hn h60 (by rw [fz_eq]; omega) hd hl hs ha
