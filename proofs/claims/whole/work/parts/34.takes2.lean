theorem TK_none {S : CS} {k p : Nat} {r : RS} {o : Int32 × CS} (h : stepR (S.1 k 1) p r = none) (ho : o.1 = 0) : TK S k p r o := by
  unfold TK
  rw [h]
  exact ho
theorem TK_some {S : CS} {k p : Nat} {r r' : RS} {o : Int32 × CS} (h : stepR (S.1 k 1) p r = some r') (h1 : o.1 = 1) (h2 : RC o.2 r') (h3 : o.2.1 = (tb (S.1 k 1) p k S r).1) : TK S k p r o := by
  unfold TK
  rw [h]
  exact ⟨h1, h2, h3⟩
theorem stR_23 (S : CS) (i : Nat) (v : Int32) : (stR S 2 i v).2 3 = S.2 3 := stR_o (by decide)
theorem ts_0 {S : CS} {k p n : Nat} {stk : List (Nat × Nat)} {h : Nat} {x : Int32} {g : Nat} {pr : Int32} {st : Nat} (hn : S.1 k 0 6 = nI n) (h60 : n ≤ 60) (hp : p < n) (hR : RC S (stk, 0, h, x, g, pr, st)) : TK S k p (stk, 0, h, x, g, pr, st) (f_RD_takes S k (nI p)) := by
  obtain ⟨hd, hl, hs, he, he8, h0, h4, h7⟩ := hR
  rw [tk_0 (he.trans nI_0)]
  have e1 : f_RD_takesProcedure S k (nI p) = if f_GS_isLetter (f_MT_signAt S k (nI p)) = 0 then (0, S) else (1, stR (stR (f_MT_addProcedure (stR (stR S 2 6 (f_MT_signAt S k (nI p) - 65)) 2 7 0) k ((stR (stR S 2 6 (f_MT_signAt S k (nI p) - 65)) 2 7 0).2 2 6) (nI p)) 2 3 (nI p)) 2 2 1) := rfl
  rw [e1, sgn hn h60 hp]
  by_cases q : isL (S.1 k 1 p)
  · rw [if_neg (fun z => (gs_L _).1.mp z q)]
    refine TK_some (r' := (stk, 1, p, x, g, S.1 k 1 p - 65, 0)) (by simp [stepR, q]) rfl ⟨?_, hl, ?_, ?_, by omega, fun _ => ⟨?_, ?_, ?_⟩, fun z => by omega, fun z => by omega⟩ ?_
    · simp [stR_at, addP_2, hd]
    · rw [stR_23, stR_23, addP_2, stR_23, stR_23]; exact hs
    · rw [stR_at]; simp; rfl
    · simp [stR_at]
    · simp [stR_at, addP_2]
    · simp [stR_at, addP_2]; rfl
    · show (f_MT_addProcedure _ k _ (nI p)).1 = _
      rw [show (stR (stR S 2 6 (S.1 k 1 p - 65)) 2 7 0).2 2 6 = S.1 k 1 p - 65 from by simp [stR_at]]
      simp only [tb, if_true]
      exact addP_1 (S := stR (stR S 2 6 (S.1 k 1 p - 65)) 2 7 0) (S' := S) rfl _ _ _
  · rw [if_pos ((gs_L _).1.mpr q)]
    exact TK_none (by simp only [stepR, if_neg q, if_true]) rfl
theorem ts_1 {S : CS} {k p n : Nat} {stk : List (Nat × Nat)} {h : Nat} {x : Int32} {g : Nat} {pr : Int32} {st : Nat} (hn : S.1 k 0 6 = nI n) (h60 : n ≤ 60) (hp : p < n) (hR : RC S (stk, 1, h, x, g, pr, st)) : TK S k p (stk, 1, h, x, g, pr, st) (f_RD_takes S k (nI p)) := by
  obtain ⟨hd, hl, hs, he, he8, h0, h4, h7⟩ := hR
  obtain ⟨h01, h02, h03⟩ := h0 (by omega)
  rw [tk_1 he, sgn hn h60 hp]
  by_cases q : S.1 k 1 p = 123
  · rw [if_pos q]
    by_cases q2 : stk.length < 6
    · rw [opn_s hd q2, if_neg (show ¬ (1 : Int32) = 0 from by decide)]
      refine TK_some (r' := ((h, p) :: stk, 2, h, x, g, pr, st)) (by simp [stepR, q, q2]) rfl ⟨?_, ?_, ⟨?_, ?_⟩, ?_, by omega, fun _ => ⟨?_, ?_, ?_⟩, fun z => by omega, fun z => by omega⟩ ?_
      · simp [stR_at]
      · exact q2
      · rw [stR_23, stR_23, stR_s, upd_s]; exact h01
      · rw [stR_23, stR_23, stR_s]; exact SK_upd hs (Nat.le_refl _)
      · rw [stR_at]; simp; rfl
      · simp [stR_at, h01]
      · simp [stR_at, h02]
      · simp [stR_at, h03]
      · simp [tb, stR_1]
    · rw [opn_f hd (by omega) (by omega)]
      exact TK_none (by simp [stepR, q, q2]) rfl
  · rw [if_neg q]
    exact TK_none (by simp [stepR, q]) rfl
theorem ts_4 {S : CS} {k p n : Nat} {stk : List (Nat × Nat)} {h : Nat} {x : Int32} {g : Nat} {pr : Int32} {st : Nat} (hn : S.1 k 0 6 = nI n) (h60 : n ≤ 60) (hp : p < n) (hR : RC S (stk, 4, h, x, g, pr, st)) : TK S k p (stk, 4, h, x, g, pr, st) (f_RD_takes S k (nI p)) := by
  obtain ⟨hd, hl, hs, he, he8, h0, h4, h7⟩ := hR
  obtain ⟨h01, h02, h03⟩ := h0 (by omega)
  rw [tk_4 he, sgn hn h60 hp]
  by_cases q : S.1 k 1 p = 61
  · rw [if_pos q]
    refine TK_some (r' := (stk, 6, h, x, g, pr, st)) (by simp [stepR, q]) rfl ⟨?_, hl, ?_, ?_, by omega, fun _ => ⟨?_, ?_, ?_⟩, fun _ => ?_, fun z => by omega⟩ ?_
    · simp [stR_at, hd]
    · rw [stR_23]; exact hs
    · rw [stR_at]; simp; rfl
    · simp [stR_at, h01]
    · simp [stR_at, h02]
    · simp [stR_at, h03]
    · simp [stR_at, h4]
    · simp [tb, stR_1]
  · rw [if_neg q]
    exact TK_none (by simp [stepR, q]) rfl
theorem ts_5 {S : CS} {k p n : Nat} {stk : List (Nat × Nat)} {h : Nat} {x : Int32} {g : Nat} {pr : Int32} {st : Nat} (hn : S.1 k 0 6 = nI n) (h60 : n ≤ 60) (hp : p < n) (hR : RC S (stk, 5, h, x, g, pr, st)) : TK S k p (stk, 5, h, x, g, pr, st) (f_RD_takes S k (nI p)) := by
  obtain ⟨hd, hl, hs, he, he8, h0, h4, h7⟩ := hR
  obtain ⟨h01, h02, h03⟩ := h0 (by omega)
  rw [tk_5 he, sgn hn h60 hp]
  by_cases q : S.1 k 1 p = 59
  · rw [if_pos q]
    refine TK_some (r' := (stk, 2, h, x, g, pr, st)) (by simp [stepR, q]) rfl ⟨?_, hl, ?_, ?_, by omega, fun _ => ⟨?_, ?_, ?_⟩, fun z => by omega, fun z => by omega⟩ ?_
    · simp [stR_at, hd]
    · rw [stR_23]; exact hs
    · rw [stR_at]; simp; rfl
    · simp [stR_at, h01]
    · simp [stR_at, h02]
    · simp [stR_at, h03]
    · simp [tb, stR_1]
  · rw [if_neg q]
    exact TK_none (by simp [stepR, q]) rfl
