theorem RC_end {S : CS} {t : Nat → Int32} {l : List (Nat × Nat)} {e h : Nat} {x : Int32} {g : Nat} {pr : Int32} {st : Nat} (e8 : e = 7 ∨ e = 8) (hl : l.length ≤ 6) (hs : SK (S.2 3) l) (h01 : S.2 2 3 = nI h) (h02 : S.2 2 6 = pr) (h03 : S.2 2 7 = nI st) (h4 : S.2 2 4 = x) (h7 : e = 7 → S.2 2 5 = nI g) :
    RC (stR (stR S 2 1 (nI (popP t l).length)) 2 2 (nI e)) (popP t l, e, h, x, g, pr, st) := by
  refine ⟨?_, Nat.le_trans (popP_len t l) hl, ?_, ?_, by omega, fun _ => ⟨?_, ?_, ?_⟩, fun _ => ?_, fun z => ?_⟩
  · simp [stR_at]
  · rw [stR_23, stR_23]; exact SK_popP hs
  · simp [stR_at]
  · simp [stR_at, h01]
  · simp [stR_at, h02]
  · simp [stR_at, h03]
  · simp [stR_at, h4]
  · simp [stR_at, h7 z]
theorem RC_push {S : CS} {l : List (Nat × Nat)} {a : Nat × Nat} {e h : Nat} {x : Int32} {g : Nat} {pr : Int32} {st : Nat} (he : e ≤ 6) (hl : l.length < 6) (hs : SK (S.2 3) l) (h01 : S.2 2 3 = nI h) (h02 : S.2 2 6 = pr) (h03 : S.2 2 7 = nI st) (h4 : 4 ≤ e → S.2 2 4 = x) :
    RC (stR (stR (stR S 3 l.length (nI a.1)) 2 1 (nI (l.length + 1))) 2 2 (nI e)) (a :: l, e, h, x, g, pr, st) := by
  refine ⟨?_, hl, ⟨?_, ?_⟩, ?_, by omega, fun _ => ⟨?_, ?_, ?_⟩, fun z => ?_, fun z => by omega⟩
  · simp [stR_at]
  · rw [stR_23, stR_23, stR_s, upd_s]
  · rw [stR_23, stR_23, stR_s]; exact SK_upd hs (Nat.le_refl _)
  · simp [stR_at]
  · simp [stR_at, h01]
  · simp [stR_at, h02]
  · simp [stR_at, h03]
  · simp [stR_at, h4 z]
theorem RC_exp {S : CS} {l : List (Nat × Nat)} {e h : Nat} {x : Int32} {g : Nat} {pr : Int32} {st : Nat} (he : e ≤ 6) (hd : S.2 2 1 = nI l.length) (hl : l.length ≤ 6) (hs : SK (S.2 3) l) (h01 : S.2 2 3 = nI h) (h02 : S.2 2 6 = pr) (h03 : S.2 2 7 = nI st) (h4 : 4 ≤ e → S.2 2 4 = x) :
    RC (stR S 2 2 (nI e)) (l, e, h, x, g, pr, st) := by
  refine ⟨?_, hl, ?_, ?_, by omega, fun _ => ⟨?_, ?_, ?_⟩, fun z => ?_, fun z => by omega⟩
  · simp [stR_at, hd]
  · rw [stR_23]; exact hs
  · simp [stR_at]
  · simp [stR_at, h01]
  · simp [stR_at, h02]
  · simp [stR_at, h03]
  · simp [stR_at, h4 z]
theorem ts_6 {S : CS} {k p n : Nat} {stk : List (Nat × Nat)} {h : Nat} {x : Int32} {g : Nat} {pr : Int32} {st : Nat} (hn : S.1 k 0 6 = nI n) (h60 : n ≤ 60) (hp : p < n) (hR : RC S (stk, 6, h, x, g, pr, st)) (hW : WR (S.1 k 1) p (stk, 6, h, x, g, pr, st)) : TK S k p (stk, 6, h, x, g, pr, st) (f_RD_takes S k (nI p)) := by
  obtain ⟨hd, hl, hs, he, he8, h0, h4, h7⟩ := hR
  obtain ⟨wa, wh, ws, wg, wn⟩ := hW
  obtain ⟨h01, h02, h03⟩ := h0 (by omega)
  have h4 := h4 (by omega)
  have han : ∀ a ∈ stk, a.1 < n := fun a ha => Nat.lt_trans (wa a ha).1 hp
  rw [tk_6 he]
  unfold f_RD_takesOperand
  simp only [sgn hn h60 hp]
  by_cases q0 : S.1 k 1 p = 40 ∨ isP (S.1 k 1 p)
  · have e1 : (if S.1 k 1 p = 40 then ((f_RD_opens S (nI p) 6).1, (f_RD_opens S (nI p) 6).2) else if f_GS_isPrefix (S.1 k 1 p) = 0 then (if f_GS_isVariable (S.1 k 1 p) = 0 then (if f_GS_isDigit (S.1 k 1 p) = 0 then ((0 : Int32), stR S 2 5 1) else if (f_RD_endsOperand (stR S 2 5 1) k 7).1 = 0 then (0, (f_RD_endsOperand (stR S 2 5 1) k 7).2) else (1, (f_RD_endsOperand (stR S 2 5 1) k 7).2)) else ((f_RD_endsOperand S k 8).1, (f_RD_endsOperand S k 8).2)) else ((f_RD_opens S (nI p) 6).1, (f_RD_opens S (nI p) 6).2)) = f_RD_opens S (nI p) 6 := by
      by_cases q1 : S.1 k 1 p = 40
      · rw [if_pos q1]
      · rw [if_neg q1, if_neg (fun z => (gs_P _).1.mp z (q0.resolve_left q1))]
    rw [e1]
    by_cases q2 : stk.length < 6
    · rw [opn_s hd q2]
      exact TK_some (r' := ((p, p) :: stk, 6, h, x, g, pr, st)) (by simp [stepR, q0, q2]) rfl (RC_push (a := (p, p)) (e := 6) (by omega) q2 hs h01 h02 h03 (fun _ => h4)) (by simp [tb, stR_1])
    · rw [opn_f hd (by omega) (by omega)]
      exact TK_none (by simp [stepR, q0, q2]) rfl
  · have q1 : ¬ S.1 k 1 p = 40 := fun z => q0 (Or.inl z)
    have q2 : ¬ isP (S.1 k 1 p) := fun z => q0 (Or.inr z)
    rw [if_neg q1, if_pos ((gs_P _).1.mpr q2)]
    by_cases q3 : isV (S.1 k 1 p)
    · rw [if_neg (fun z => (gs_V _).1.mp z q3), ends_s hn h60 hd hl hs han]
      exact TK_some (r' := (popP (S.1 k 1) stk, 8, h, x, g, pr, st)) (by simp only [stepR, if_neg q0, if_pos q3]; rfl) rfl (RC_end (e := 8) (by omega) hl hs h01 h02 h03 h4 (fun z => by omega)) (by simp [tb, stR_1])
    · rw [if_pos ((gs_V _).1.mpr q3)]
      by_cases q4 : isD (S.1 k 1 p)
      · rw [if_neg (fun z => (gs_D _).1.mp z q4), ends_s (S := stR S 2 5 1) hn h60 (by simp [stR_at, hd]) hl (by rw [stR_23]; exact hs) han]
        rw [if_neg (show ¬ (1 : Int32) = 0 from by decide)]
        exact TK_some (r' := (popP (S.1 k 1) stk, 7, h, x, 1, pr, st)) (by simp only [stepR, if_neg q0, if_neg q3, if_pos q4]; rfl) rfl (RC_end (e := 7) (t := S.1 k 1) (S := stR S 2 5 1) (by omega) hl (by rw [stR_23]; exact hs) (by simp [stR_at, h01]) (by simp [stR_at, h02]) (by simp [stR_at, h03]) (by simp [stR_at, h4]) (fun _ => by rw [stR_at]; rfl)) (by simp [tb, stR_1])
      · rw [if_pos ((gs_D _).1.mpr q4)]
        exact TK_none (by simp only [stepR, if_neg q0, if_neg q3, if_neg q4]; rfl) rfl
theorem ts_o {S : CS} {k p n : Nat} {stk : List (Nat × Nat)} {e h : Nat} {x : Int32} {g : Nat} {pr : Int32} {st : Nat} (he78 : e = 7 ∨ e = 8) (hn : S.1 k 0 6 = nI n) (h60 : n ≤ 60) (hp : p < n) (hR : RC S (stk, e, h, x, g, pr, st)) (hW : WR (S.1 k 1) p (stk, e, h, x, g, pr, st)) (hc : ¬ (e = 7 ∧ isD (S.1 k 1 p))) : TK S k p (stk, e, h, x, g, pr, st) (f_RD_takesOperator S k (nI p)) := by
  obtain ⟨hd, hl, hs, he, he8, h0, h4, h7⟩ := hR
  obtain ⟨wa, wh, ws, wg, wn⟩ := hW
  obtain ⟨h01, h02, h03⟩ := h0 (by omega)
  have h4 := h4 (by omega)
  have n0 : ¬ e = 0 := by omega
  have n1 : ¬ e = 1 := by omega
  have n2 : ¬ (e = 2 ∨ e = 3) := by omega
  have n3 : ¬ (e = 3 ∧ S.1 k 1 p = 58) := fun z => by omega
  have n4 : ¬ e = 4 := by omega
  have n5 : ¬ e = 5 := by omega
  have n6 : ¬ e = 6 := by omega
  have htb : (tb (S.1 k 1) p k S (stk, e, h, x, g, pr, st)).1 = S.1 := by simp only [tb, if_neg n0, if_neg n3, if_neg n2]
  unfold f_RD_takesOperator
  simp only [sgn hn h60 hp]
  by_cases q : isO (S.1 k 1 p)
  · rw [if_neg (fun z => (gs_O _).mp z q)]
    exact TK_some (r' := (stk, 6, h, x, g, pr, st)) (by simp only [stepR, if_neg n0, if_neg n1, if_neg n3, if_neg n2, if_neg n4, if_neg n5, if_neg n6, if_neg hc, if_pos q]) rfl (RC_exp (e := 6) (by omega) hd hl hs h01 h02 h03 (fun _ => h4)) (by rw [htb]; rfl)
  · rw [if_pos ((gs_O _).mpr q)]
    match stk, hd, hl, hs, wa, wn, htb with
    | [], _, _, _, _, wn, _ => exact absurd rfl (wn (by omega))
    | a :: l, hd, hl, hs, wa, wn, htb =>
      have ha : a.1 < n := Nat.lt_trans (wa a List.mem_cons_self).1 hp
      have hl' : l.length + 1 ≤ 6 := hl
      rw [lastO hn h60 hd hl hs ha]
      by_cases q1 : S.1 k 1 a.1 = 40
      · rw [if_pos q1]
        by_cases q2 : S.1 k 1 p = 41
        · rw [if_pos q2, hd, show nI (a :: l).length - 1 = nI l.length from nI_pred _]
          rw [ends_s (S := stR S 2 1 (nI l.length)) hn h60 (by simp [stR_at]) (by omega) (by rw [stR_23]; exact hs.2) (fun b hb => Nat.lt_trans (wa b (List.mem_cons_of_mem _ hb)).1 hp)]
          exact TK_some (r' := (popP (S.1 k 1) l, 8, h, x, g, pr, st)) (by simp only [stepR, if_neg n0, if_neg n1, if_neg n3, if_neg n2, if_neg n4, if_neg n5, if_neg n6, if_neg hc, if_neg q, if_pos q1, if_pos q2]) rfl (RC_end (e := 8) (t := S.1 k 1) (S := stR S 2 1 (nI l.length)) (by omega) (by omega) (by rw [stR_23]; exact hs.2) (by simp [stR_at, h01]) (by simp [stR_at, h02]) (by simp [stR_at, h03]) (by simp [stR_at, h4]) (fun z => by omega)) (by rw [htb]; rfl)
        · rw [if_neg q2]
          exact TK_none (by simp only [stepR, if_neg n0, if_neg n1, if_neg n3, if_neg n2, if_neg n4, if_neg n5, if_neg n6, if_neg hc, if_neg q, if_pos q1, if_neg q2]) rfl
      · rw [if_neg q1, h4]
        by_cases q2 : S.1 k 1 p = x
        · rw [if_pos q2]
          by_cases q3 : S.1 k 1 p = 123
          · rw [if_pos q3]
            by_cases q4 : (a :: l).length < 6
            · rw [opn_s hd q4, h01]
              exact TK_some (r' := ((h, p) :: a :: l, 2, h, x, g, pr, st)) (by simp only [stepR, if_neg n0, if_neg n1, if_neg n3, if_neg n2, if_neg n4, if_neg n5, if_neg n6, if_neg hc, if_neg q, if_neg q1, if_pos q2, if_pos q3, if_pos q4]) rfl (RC_push (a := (h, p)) (e := 2) (by omega) q4 hs h01 h02 h03 (fun z => by omega)) (by rw [htb]; rfl)
            · rw [opn_f hd (by omega) (by show l.length + 1 < _; omega)]
              exact TK_none (by simp only [stepR, if_neg n0, if_neg n1, if_neg n3, if_neg n2, if_neg n4, if_neg n5, if_neg n6, if_neg hc, if_neg q, if_neg q1, if_pos q2, if_pos q3, if_neg q4]) rfl
          · rw [if_neg q3]
            exact TK_some (r' := (a :: l, 2, h, x, g, pr, st)) (by simp only [stepR, if_neg n0, if_neg n1, if_neg n3, if_neg n2, if_neg n4, if_neg n5, if_neg n6, if_neg hc, if_neg q, if_neg q1, if_pos q2, if_neg q3]) rfl (RC_exp (e := 2) (by omega) hd hl hs h01 h02 h03 (fun z => by omega)) (by rw [htb]; rfl)
        · rw [if_neg q2]
          exact TK_none (by simp only [stepR, if_neg n0, if_neg n1, if_neg n3, if_neg n2, if_neg n4, if_neg n5, if_neg n6, if_neg hc, if_neg q, if_neg q1, if_neg q2]) rfl
