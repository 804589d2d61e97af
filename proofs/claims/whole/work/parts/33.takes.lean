theorem snd_ite {A B : CS} {s : Nat → Nat → Int32} {P : Prop} {hd : Decidable P} (h1 : A.2 = s) (h2 : B.2 = s) : (@ite _ P hd A B).2 = s := by
  by_cases h : P
  · rw [if_pos h]; exact h1
  · rw [if_neg h]; exact h2
theorem fst_ite {A B A' B' : CS} {P : Prop} {hd : Decidable P} (h1 : A.1 = A'.1) (h2 : B.1 = B'.1) : (@ite _ P hd A B).1 = (@ite _ P hd A' B').1 := by
  by_cases h : P
  · rw [if_pos h, if_pos h]; exact h1
  · rw [if_neg h, if_neg h]; exact h2
theorem addP_2 (S : CS) (k : Nat) (a b : Int32) : (f_MT_addProcedure S k a b).2 = S.2 := snd_ite rfl (snd_ite (snd_ite rfl rfl) rfl)
theorem addC_2 (S : CS) (k : Nat) (a b : Int32) : (f_MT_addCall S k a b).2 = S.2 := snd_ite rfl (snd_ite rfl rfl)
theorem addS_2 (S : CS) (k : Nat) (a b : Int32) : (f_MT_addStatement S k a b).2 = S.2 := snd_ite rfl rfl
theorem addB_2 (S : CS) (k : Nat) (a b : Int32) : (f_MT_addBlock S k a b).2 = S.2 := snd_ite rfl (snd_ite rfl rfl)
theorem addP_1 {S S' : CS} (h : S.1 = S'.1) (k : Nat) (a b : Int32) : (f_MT_addProcedure S k a b).1 = (f_MT_addProcedure S' k a b).1 := by
  obtain ⟨x, y⟩ := S
  obtain ⟨x', y'⟩ := S'
  have h : x = x' := h
  subst h
  exact fst_ite rfl (fst_ite (fst_ite rfl rfl) rfl)
theorem addC_1 {S S' : CS} (h : S.1 = S'.1) (k : Nat) (a b : Int32) : (f_MT_addCall S k a b).1 = (f_MT_addCall S' k a b).1 := by
  obtain ⟨x, y⟩ := S
  obtain ⟨x', y'⟩ := S'
  have h : x = x' := h
  subst h
  exact fst_ite rfl (fst_ite rfl rfl)
theorem stT_1 {S S' : CS} (h : S.1 = S'.1) (k j i : Nat) (v : Int32) : (stT S k j i v).1 = (stT S' k j i v).1 := by
  show va_up S.1 k _ = va_up S'.1 k _
  rw [h]
theorem addS_s {S : CS} {k p n : Nat} {v : Int32} (hn : S.1 k 0 6 = nI n) (h60 : n ≤ 60) (hp : p < n) : f_MT_addStatement S k (nI p) v = stT S k 2 p v := by
  unfold f_MT_addStatement
  show (if f_MT_isPlace S k (nI p) = 0 then S else stT S k 2 (nI p).toNatClampNeg v) = _
  rw [plc hn h60 hp, if_neg (by decide), nI_clamp (by omega)]
theorem addB_s {S : CS} {k p h n : Nat} (hn : S.1 k 0 6 = nI n) (h60 : n ≤ 60) (hp : p < n) (hh : h < n) : f_MT_addBlock S k (nI h) (nI p) = stT (stT S k 3 p (nI h)) k 4 h (nI p) := by
  unfold f_MT_addBlock
  show (if f_MT_isPlace S k (nI h) = 0 then S else if f_MT_isPlace S k (nI p) = 0 then S else stT (stT S k 3 (nI p).toNatClampNeg (nI h)) k 4 (nI h).toNatClampNeg (nI p)) = _
  rw [plc hn h60 hp, plc hn h60 hh, if_neg (by decide), if_neg (by decide), nI_clamp (by omega), nI_clamp (by omega)]
theorem tk_0 {S : CS} {k : Nat} {p : Int32} (h : S.2 2 2 = 0) : f_RD_takes S k p = f_RD_takesProcedure S k p := by
  show (if S.2 2 2 = 0 then _ else _) = _
  rw [if_pos h]
theorem tk_1 {S : CS} {k : Nat} {p : Int32} (h : S.2 2 2 = 1) : f_RD_takes S k p = if f_MT_signAt S k p = 123 then (if (f_RD_opens S (S.2 2 3) 2).1 = 0 then (0, (f_RD_opens S (S.2 2 3) 2).2) else (1, (f_RD_opens S (S.2 2 3) 2).2)) else (0, S) := by
  show (if S.2 2 2 = 0 then _ else if S.2 2 2 = 1 then _ else _) = _
  rw [h, if_neg (by decide), if_pos rfl]
theorem tk_2 {S : CS} {k : Nat} {p : Int32} (h : S.2 2 2 = 2) : f_RD_takes S k p = f_RD_takesStatement S k p := by
  show (if S.2 2 2 = 0 then _ else if S.2 2 2 = 1 then _ else if S.2 2 2 = 2 then _ else _) = _
  rw [h, if_neg (by decide), if_neg (by decide), if_pos rfl]
theorem tk_3 {S : CS} {k : Nat} {p : Int32} (h : S.2 2 2 = 3) : f_RD_takes S k p = if f_MT_signAt S k p = 58 then f_RD_begins S p 1 else f_RD_takesStatement S k p := by
  show (if S.2 2 2 = 0 then _ else if S.2 2 2 = 1 then _ else if S.2 2 2 = 2 then _ else if S.2 2 2 = 3 then _ else _) = _
  rw [h, if_neg (by decide), if_neg (by decide), if_neg (by decide), if_pos rfl]
theorem tk_4 {S : CS} {k : Nat} {p : Int32} (h : S.2 2 2 = 4) : f_RD_takes S k p = if f_MT_signAt S k p = 61 then (1, stR S 2 2 6) else (0, S) := by
  show (if S.2 2 2 = 0 then _ else if S.2 2 2 = 1 then _ else if S.2 2 2 = 2 then _ else if S.2 2 2 = 3 then _ else if S.2 2 2 = 4 then _ else _) = _
  rw [h, if_neg (by decide), if_neg (by decide), if_neg (by decide), if_neg (by decide), if_pos rfl]
  rfl
theorem tk_5 {S : CS} {k : Nat} {p : Int32} (h : S.2 2 2 = 5) : f_RD_takes S k p = if f_MT_signAt S k p = 59 then (1, stR S 2 2 2) else (0, S) := by
  show (if S.2 2 2 = 0 then _ else if S.2 2 2 = 1 then _ else if S.2 2 2 = 2 then _ else if S.2 2 2 = 3 then _ else if S.2 2 2 = 4 then _ else if S.2 2 2 = 5 then _ else _) = _
  rw [h, if_neg (by decide), if_neg (by decide), if_neg (by decide), if_neg (by decide), if_neg (by decide), if_pos rfl]
  rfl
theorem tk_6 {S : CS} {k : Nat} {p : Int32} (h : S.2 2 2 = 6) : f_RD_takes S k p = f_RD_takesOperand S k p := by
  show (if S.2 2 2 = 0 then _ else if S.2 2 2 = 1 then _ else if S.2 2 2 = 2 then _ else if S.2 2 2 = 3 then _ else if S.2 2 2 = 4 then _ else if S.2 2 2 = 5 then _ else if S.2 2 2 = 6 then _ else _) = _
  rw [h, if_neg (by decide), if_neg (by decide), if_neg (by decide), if_neg (by decide), if_neg (by decide), if_neg (by decide), if_pos rfl]
theorem tk_7 {S : CS} {k : Nat} {p : Int32} (h : S.2 2 2 = 7) : f_RD_takes S k p = if f_GS_isDigit (f_MT_signAt S k p) = 0 then f_RD_takesOperator S k p else f_RD_takesDigit S := by
  show (if S.2 2 2 = 0 then _ else if S.2 2 2 = 1 then _ else if S.2 2 2 = 2 then _ else if S.2 2 2 = 3 then _ else if S.2 2 2 = 4 then _ else if S.2 2 2 = 5 then _ else if S.2 2 2 = 6 then _ else if S.2 2 2 = 7 then _ else _) = _
  rw [h, if_neg (by decide), if_neg (by decide), if_neg (by decide), if_neg (by decide), if_neg (by decide), if_neg (by decide), if_neg (by decide), if_pos rfl]
theorem tk_8 {S : CS} {k : Nat} {p : Int32} (h : S.2 2 2 = 8) : f_RD_takes S k p = f_RD_takesOperator S k p := by
  show (if S.2 2 2 = 0 then _ else if S.2 2 2 = 1 then _ else if S.2 2 2 = 2 then _ else if S.2 2 2 = 3 then _ else if S.2 2 2 = 4 then _ else if S.2 2 2 = 5 then _ else if S.2 2 2 = 6 then _ else if S.2 2 2 = 7 then _ else _) = _
  rw [h, if_neg (by decide), if_neg (by decide), if_neg (by decide), if_neg (by decide), if_neg (by decide), if_neg (by decide), if_neg (by decide), if_neg (by decide)]
theorem opn_s {S : CS} {l : Nat} {a b : Int32} (hd : S.2 2 1 = nI l) (hl : l < 6) : f_RD_opens S a b = (1, stR (stR (stR S 3 l a) 2 1 (nI (l + 1))) 2 2 b) := by
  unfold f_RD_opens
  rw [hd, if_pos (show nI l < 6 from nI_lt (b := 6) hl (by decide)), nI_clamp (by omega)]
  show (1, stR (stR (stR S 3 l a) 2 1 ((stR S 3 l a).2 2 1 + 1)) 2 2 b) = _
  rw [show (stR S 3 l a).2 2 1 = nI l from hd, nI_1]
theorem opn_f {S : CS} {l : Nat} {a b : Int32} (hd : S.2 2 1 = nI l) (hl : 6 ≤ l) (hb : l < 2 ^ 31) : f_RD_opens S a b = (0, S) := by
  unfold f_RD_opens
  rw [hd, if_neg (show ¬ nI l < 6 from nI_nlt (b := 6) hl hb)]
/-- the tables of the text -/
noncomputable def tb (t : Nat → Int32) (p : Nat) (k : Nat) (S : CS) : RS → CS
  | (stk, e, _, _, _, pr, st) =>
    if e = 0 then f_MT_addProcedure S k (t p - 65) (nI p)
    else if e = 3 ∧ t p = 58 then S
    else if e = 2 ∨ e = 3 then
      (if t p = 125 then (match stk with
        | [] => S
        | a :: _ => stT (stT S k 3 p (nI a.1)) k 4 a.1 (nI p))
      else stT (if isL (t p) then f_MT_addCall S k pr (t p - 65) else S) k 2 p (nI (st + 1)))
    else S
/-- what one sign does to the class -/
def TK (S : CS) (k p : Nat) (r : RS) (o : Int32 × CS) : Prop := match stepR (S.1 k 1) p r with
  | none => o.1 = 0
  | some r' => o.1 = 1 ∧ RC o.2 r' ∧ o.2.1 = (tb (S.1 k 1) p k S r).1
theorem bh_V {c : Int32} (h : isV c) : f_RD_behindFirstSign c = 4 := by
  unfold f_RD_behindFirstSign
  show (if f_GS_isVariable c = 0 then _ else _) = _
  rw [if_neg (fun q => (gs_V c).1.mp q h)]
theorem bh_L {c : Int32} (h : isL c) : f_RD_behindFirstSign c = 5 := by
  unfold f_RD_behindFirstSign
  show (if f_GS_isVariable c = 0 then (if f_GS_isLetter c = 0 then _ else _) else _) = _
  rw [if_pos ((gs_V c).1.mpr (by omega)), if_neg (fun q => (gs_L c).1.mp q h)]
theorem bh_o {c : Int32} (h : ¬ isV c) (h2 : ¬ isL c) : f_RD_behindFirstSign c = if c = 33 then 6 else if c = 63 then 6 else if c = 64 then 6 else 2 := by
  unfold f_RD_behindFirstSign
  show (if f_GS_isVariable c = 0 then (if f_GS_isLetter c = 0 then _ else _) else _) = _
  rw [if_pos ((gs_V c).1.mpr h), if_pos ((gs_L c).1.mpr h2)]
