theorem stT_2 (S : CS) (k j i : Nat) (v : Int32) : (stT S k j i v).2 = S.2 := rfl
theorem clo_s {S : CS} {k p n : Nat} {a : Nat × Nat} {l : List (Nat × Nat)} (hn : S.1 k 0 6 = nI n) (h60 : n ≤ 60) (hp : p < n) (hd : S.2 2 1 = nI (a :: l).length) (hl : (a :: l).length ≤ 6) (hs : SK (S.2 3) (a :: l)) (ha : a.1 < n) :
    f_RD_closesBlock S k (nI p) = (1, stR (stT (stT (stR S 2 1 (nI l.length)) k 3 p (nI a.1)) k 4 a.1 (nI p)) 2 2 (nI (if isL (S.1 k 1 a.1) then 0 else if S.1 k 1 a.1 = 63 then 3 else 2))) := by
  have hl' : l.length + 1 ≤ 6 := hl
  unfold f_RD_closesBlock
  rw [hd, if_pos (show (1 : Int32) ≤ nI (a :: l).length from nI_le (a := 1) (Nat.succ_le_succ (Nat.zero_le _)) (by show l.length + 1 < _; omega))]
  rw [show nI (a :: l).length - 1 = nI l.length from nI_pred _]
  have e1 : (stR S 2 1 (nI l.length)).2 3 ((stR S 2 1 (nI l.length)).2 2 1).toNatClampNeg = nI a.1 := by
    rw [stR_23, show (stR S 2 1 (nI l.length)).2 2 1 = nI l.length from by simp [stR_at], nI_clamp (by omega)]
    exact hs.1
  simp only [e1]
  rw [addB_s (S := stR S 2 1 (nI l.length)) hn h60 hp ha]
  have e2 : f_MT_signAt (stT (stT (stR S 2 1 (nI l.length)) k 3 p (nI a.1)) k 4 a.1 (nI p)) k (nI a.1) = S.1 k 1 a.1 := by
    rw [sgn (n := n) (by rw [stT_o (by decide), stT_o (by decide)]; exact hn) h60 ha, stT_o (by decide), stT_o (by decide)]
    rfl
  rw [e2]
  by_cases q : isL (S.1 k 1 a.1)
  · rw [if_neg (fun z => (gs_L _).1.mp z q), if_pos q]
    rfl
  · rw [if_pos ((gs_L _).1.mpr q), if_neg q]
    by_cases q2 : S.1 k 1 a.1 = 63
    · rw [if_pos q2, if_pos q2]; rfl
    · rw [if_neg q2, if_neg q2]; rfl
/-- the state behind the first sign of a statement -/
noncomputable def stS (S : CS) (k p : Nat) (c pr : Int32) (st : Nat) (x : Int32) (nx : Int32) : CS :=
  stR (stR (stR (stT (stR (if isL c then f_MT_addCall S k pr (c - 65) else S) 2 7 (nI (st + 1))) k 2 p (nI (st + 1))) 2 4 x) 2 3 (nI p)) 2 2 nx
theorem sta_b {S S0 : CS} {k p n : Nat} {st : Nat} {x nx : Int32} (h0 : S0.2 2 7 = nI st) (hn : S0.1 k 0 6 = nI n) (h60 : n ≤ 60) (hp : p < n) :
    f_RD_begins (stR (f_MT_addStatement (stR S0 2 7 (S0.2 2 7 + 1)) k (nI p) ((stR S0 2 7 (S0.2 2 7 + 1)).2 2 7)) 2 4 x) (nI p) nx = (1, stR (stR (stR (stT (stR S0 2 7 (nI (st + 1))) k 2 p (nI (st + 1))) 2 4 x) 2 3 (nI p)) 2 2 nx) := by
  rw [h0, nI_1, show (stR S0 2 7 (nI (st + 1))).2 2 7 = nI (st + 1) from by simp [stR_at]]
  rw [addS_s (S := stR S0 2 7 (nI (st + 1))) hn h60 hp]
  rfl
theorem sta_s {S : CS} {k p n : Nat} {pr : Int32} {st : Nat} (hn : S.1 k 0 6 = nI n) (h60 : n ≤ 60) (hp : p < n) (h02 : S.2 2 6 = pr) (h03 : S.2 2 7 = nI st) (hc : S.1 k 1 p ≠ 125) :
    f_RD_takesStatement S k (nI p) = if isV (S.1 k 1 p) then (1, stS S k p (S.1 k 1 p) pr st 59 4) else if isL (S.1 k 1 p) then (1, stS S k p (S.1 k 1 p) pr st 59 5) else if S.1 k 1 p = 33 then (1, stS S k p (S.1 k 1 p) pr st 59 6) else if S.1 k 1 p = 63 ∨ S.1 k 1 p = 64 then (1, stS S k p (S.1 k 1 p) pr st 123 6) else (0, S) := by
  unfold f_RD_takesStatement
  simp only [sgn hn h60 hp]
  generalize hcc : S.1 k 1 p = c at *
  rw [if_neg hc]
  have hF := fr_addC S k pr (c - 65)
  by_cases q1 : isV c
  · rw [bh_V q1, if_pos q1, if_neg (show ¬ (4 : Int32) = 2 from by decide), if_neg (show ¬ (4 : Int32) = 5 from by decide)]
    have z1 : ¬ c = 63 := fun z => by subst z; revert q1; decide
    have z2 : ¬ c = 64 := fun z => by subst z; revert q1; decide
    have z3 : ¬ isL c := by omega
    rw [if_neg z1, if_neg z2]
    unfold stS
    rw [if_neg z3]
    exact sta_b (S := S) h03 hn h60 hp
  · rw [if_neg q1]
    by_cases q2 : isL c
    · rw [bh_L q2, if_pos q2, if_neg (show ¬ (5 : Int32) = 2 from by decide), if_pos (show (5 : Int32) = 5 from rfl)]
      have z1 : ¬ c = 63 := fun z => by subst z; revert q2; decide
      have z2 : ¬ c = 64 := fun z => by subst z; revert q2; decide
      rw [if_neg z1, if_neg z2]
      unfold stS
      rw [if_pos q2, h02]
      exact sta_b (S := S) (by rw [addC_2]; exact h03) (hF.2.2.2.1.trans hn) h60 hp
    · rw [if_neg q2, bh_o q1 q2]
      unfold stS
      rw [if_neg q2]
      by_cases q3 : c = 33
      · subst q3
        exact sta_b (S := S) h03 hn h60 hp
      · rw [if_neg q3, if_neg q3]
        by_cases q4 : c = 63
        · subst q4
          exact sta_b (S := S) h03 hn h60 hp
        · rw [if_neg q4]
          by_cases q5 : c = 64
          · subst q5
            exact sta_b (S := S) h03 hn h60 hp
          · rw [if_neg q5, if_pos (show (2 : Int32) = 2 from rfl), if_neg (show ¬ (c = 63 ∨ c = 64) from fun z => z.elim q4 q5)]
theorem ts_23 {S : CS} {k p n : Nat} {stk : List (Nat × Nat)} {e h : Nat} {x : Int32} {g : Nat} {pr : Int32} {st : Nat} (he23 : e = 2 ∨ e = 3) (hn : S.1 k 0 6 = nI n) (h60 : n ≤ 60) (hp : p < n) (hR : RC S (stk, e, h, x, g, pr, st)) (hW : WR (S.1 k 1) p (stk, e, h, x, g, pr, st)) (hc : ¬ (e = 3 ∧ S.1 k 1 p = 58)) : TK S k p (stk, e, h, x, g, pr, st) (f_RD_takesStatement S k (nI p)) := by
  obtain ⟨hd, hl, hs, he, he8, h0, h4, h7⟩ := hR
  obtain ⟨wa, wh, ws, wg, wn⟩ := hW
  obtain ⟨h01, h02, h03⟩ := h0 (by omega)
  have n0 : ¬ e = 0 := by omega
  have n1 : ¬ e = 1 := by omega
  by_cases q : S.1 k 1 p = 125
  · have e1 : f_RD_takesStatement S k (nI p) = f_RD_closesBlock S k (nI p) := by
      unfold f_RD_takesStatement
      simp only [sgn hn h60 hp]
      rw [if_pos q]
    rw [e1]
    match stk, hd, hl, hs, wa, wn with
    | [], _, _, _, _, wn => exact absurd rfl (wn (by omega))
    | a :: l, hd, hl, hs, wa, wn =>
      have ha : a.1 < n := Nat.lt_trans (wa a List.mem_cons_self).1 hp
      rw [clo_s hn h60 hp hd hl hs ha]
      refine TK_some (r' := (l, (if isL (S.1 k 1 a.1) then 0 else if S.1 k 1 a.1 = 63 then 3 else 2), h, x, g, pr, st)) (by simp only [stepR, if_neg n0, if_neg n1, if_neg hc, if_pos he23, if_pos q]) rfl ⟨?_, ?_, ?_, ?_, ?_, fun _ => ⟨?_, ?_, ?_⟩, fun z => ?_, fun z => ?_⟩ ?_
      · simp [stR_at, stT]
      · have hl' : l.length + 1 ≤ 6 := hl
        omega
      · rw [stR_23]; exact hs.2
      · simp [stR_at]
      · split
        · omega
        · split <;> omega
      · simp [stR_at, stT, h01]
      · simp [stR_at, stT, h02]
      · simp [stR_at, stT, h03]
      · revert z; split
        · intro z; omega
        · split <;> (intro z; omega)
      · revert z; split
        · intro z; omega
        · split <;> (intro z; omega)
      · simp only [tb, if_neg n0, if_neg hc, if_pos he23, if_pos q]
        rfl
  · rw [sta_s hn h60 hp h02 h03 q]
    have key : ∀ (x' nx : Int32) (e' : Nat), nx = nI e' → 4 ≤ e' → e' ≤ 6 → RC (stS S k p (S.1 k 1 p) pr st x' nx) (stk, e', p, x', g, pr, st + 1) ∧ (stS S k p (S.1 k 1 p) pr st x' nx).1 = (tb (S.1 k 1) p k S (stk, e, h, x, g, pr, st)).1 := by
      intro x' nx e' hnx h4' h6'
      have e2 : (if isL (S.1 k 1 p) then f_MT_addCall S k pr (S.1 k 1 p - 65) else S).2 = S.2 := snd_ite (addC_2 _ _ _ _) rfl
      refine ⟨⟨?_, hl, ?_, ?_, by omega, fun _ => ⟨?_, ?_, ?_⟩, fun _ => ?_, fun z => by omega⟩, ?_⟩
      · unfold stS; simp [stR_at, stT, e2, hd]
      · unfold stS; rw [stR_23, stR_23, stR_23, stT_2, stR_23, e2]; exact hs
      · unfold stS; simp [stR_at, hnx]
      · unfold stS; simp [stR_at]
      · unfold stS; simp [stR_at, stT, e2, h02]
      · unfold stS; simp [stR_at, stT]
      · unfold stS; simp [stR_at]
      · simp only [tb, if_neg n0, if_neg hc, if_pos he23, if_neg q]
        unfold stS
        exact stT_1 rfl _ _ _ _
    by_cases q1 : isV (S.1 k 1 p)
    · rw [if_pos q1]
      obtain ⟨k1, k2⟩ := key 59 4 4 rfl (by omega) (by omega)
      exact TK_some (by simp only [stepR, if_neg n0, if_neg n1, if_neg hc, if_pos he23, if_neg q, if_pos q1]) rfl k1 k2
    · rw [if_neg q1]
      by_cases q2 : isL (S.1 k 1 p)
      · rw [if_pos q2]
        obtain ⟨k1, k2⟩ := key 59 5 5 rfl (by omega) (by omega)
        exact TK_some (by simp only [stepR, if_neg n0, if_neg n1, if_neg hc, if_pos he23, if_neg q, if_neg q1, if_pos q2]) rfl k1 k2
      · rw [if_neg q2]
        by_cases q3 : S.1 k 1 p = 33
        · rw [if_pos q3]
          obtain ⟨k1, k2⟩ := key 59 6 6 rfl (by omega) (by omega)
          exact TK_some (by simp only [stepR, if_neg n0, if_neg n1, if_neg hc, if_pos he23, if_neg q, if_neg q1, if_neg q2, if_pos q3]) rfl k1 k2
        · rw [if_neg q3]
          by_cases q4 : S.1 k 1 p = 63 ∨ S.1 k 1 p = 64
          · rw [if_pos q4]
            obtain ⟨k1, k2⟩ := key 123 6 6 rfl (by omega) (by omega)
            exact TK_some (by simp only [stepR, if_neg n0, if_neg n1, if_neg hc, if_pos he23, if_neg q, if_neg q1, if_neg q2, if_neg q3, if_pos q4]) rfl k1 k2
          · rw [if_neg q4]
            exact TK_none (by simp only [stepR, if_neg n0, if_neg n1, if_neg hc, if_pos he23, if_neg q, if_neg q1, if_neg q2, if_neg q3, if_neg q4]) rfl
