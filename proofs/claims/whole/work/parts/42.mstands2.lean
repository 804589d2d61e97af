theorem st_2 {M : MS} {c : Int32} (h6 : M 0 6 = nI 2) : f_GM_stands M c = f_GM_atStatement M c := by
  unfold f_GM_stands
  rw [h6, if_neg (show ¬ nI 2 = 0 from by decide), if_neg (show ¬ nI 2 = 1 from by decide), if_pos (show nI 2 = 2 from rfl)]
  cases f_GM_atStatement M c <;> rfl
theorem st_4 {M : MS} {c : Int32} (h6 : M 0 6 = nI 4) : f_GM_stands M c = f_GM_atOperand M c := by
  unfold f_GM_stands
  rw [h6, if_neg (show ¬ nI 4 = 0 from by decide), if_neg (show ¬ nI 4 = 1 from by decide), if_neg (show ¬ nI 4 = 2 from by decide), if_pos (show nI 4 = 4 from rfl)]
  cases f_GM_atOperand M c <;> rfl
theorem st_5 {M : MS} {c : Int32} (h6 : M 0 6 = nI 5) : f_GM_stands M c = f_GM_afterOperand M c := by
  unfold f_GM_stands
  rw [h6, if_neg (show ¬ nI 5 = 0 from by decide), if_neg (show ¬ nI 5 = 1 from by decide), if_neg (show ¬ nI 5 = 2 from by decide), if_neg (show ¬ nI 5 = 4 from by decide), if_pos (show nI 5 = 5 from rfl)]
  cases f_GM_afterOperand M c <;> rfl
/-- a statement's first sign, or the block's end, with 'second' put out -/
theorem as_c {M : MS} {c : Int32} (hc : c = 58) (h9 : M 0 9 = 1) : f_GM_atStatement M c = some (1, stM (stM (stM M 0 9 0) 0 7 5) 0 6 1) := by
  unfold f_GM_atStatement
  show (if c = 58 then (if M 0 9 = 0 then _ else _) else _) = _
  rw [if_pos hc, h9, if_neg (show ¬ (1 : Int32) = 0 from by decide)]
  rfl
theorem as_n {M : MS} {c : Int32} (hc : ¬ (c = 58 ∧ M 0 9 = 1)) (hB : bl (M 0 9)) : f_GM_atStatement M c =
    (if c = 125 then gd (ix (M 0 5 - 1) 8) (if M 4 (M 0 5 - 1).toNatClampNeg = 4 then (if M 0 5 - 1 = 0 then some (1, stM (stM (stM (stM M 0 9 0) 0 5 (M 0 5 - 1)) 0 9 1) 0 6 0) else some (1, stM (stM (stM (stM M 0 9 0) 0 5 (M 0 5 - 1)) 0 9 1) 0 6 2)) else (if M 0 5 - 1 = 0 then some (1, stM (stM (stM (stM M 0 9 0) 0 5 (M 0 5 - 1)) 0 9 0) 0 6 0) else some (1, stM (stM (stM (stM M 0 9 0) 0 5 (M 0 5 - 1)) 0 9 0) 0 6 2)))
    else if isL c then some (1, stM (stM M 0 9 0) 0 6 6) else if isV c then some (1, stM (stM (stM M 0 9 0) 0 7 0) 0 6 3)
    else if c = 33 then some (1, stM (stM (stM M 0 9 0) 0 7 0) 0 6 4) else if c = 63 then some (1, stM (stM (stM M 0 9 0) 0 7 4) 0 6 4) else if c = 64 then some (1, stM (stM (stM M 0 9 0) 0 7 6) 0 6 4) else some (0, stM M 0 9 0)) := by
  have e : f_GM_atStatement M c = (if c = 125 then gd (ix (M 0 5 - 1) 8) (if M 4 (M 0 5 - 1).toNatClampNeg = 4 then (if M 0 5 - 1 = 0 then some (1, stM (stM (stM (stM M 0 9 0) 0 5 (M 0 5 - 1)) 0 9 1) 0 6 0) else some (1, stM (stM (stM (stM M 0 9 0) 0 5 (M 0 5 - 1)) 0 9 1) 0 6 2)) else (if M 0 5 - 1 = 0 then some (1, stM (stM (stM (stM M 0 9 0) 0 5 (M 0 5 - 1)) 0 9 0) 0 6 0) else some (1, stM (stM (stM (stM M 0 9 0) 0 5 (M 0 5 - 1)) 0 9 0) 0 6 2)))
    else if f_GM_isLetter c = 0 then (if f_GM_isVariable c = 0 then (if c = 33 then (if c = 33 then some (1, stM (stM (stM M 0 9 0) 0 7 0) 0 6 4) else if c = 63 then some (1, stM (stM (stM M 0 9 0) 0 7 4) 0 6 4) else some (1, stM (stM (stM M 0 9 0) 0 7 6) 0 6 4)) else if c = 63 then (if c = 33 then some (1, stM (stM (stM M 0 9 0) 0 7 0) 0 6 4) else if c = 63 then some (1, stM (stM (stM M 0 9 0) 0 7 4) 0 6 4) else some (1, stM (stM (stM M 0 9 0) 0 7 6) 0 6 4)) else if c = 64 then (if c = 33 then some (1, stM (stM (stM M 0 9 0) 0 7 0) 0 6 4) else if c = 63 then some (1, stM (stM (stM M 0 9 0) 0 7 4) 0 6 4) else some (1, stM (stM (stM M 0 9 0) 0 7 6) 0 6 4)) else some (0, stM M 0 9 0)) else some (1, stM (stM (stM M 0 9 0) 0 7 0) 0 6 3)) else some (1, stM (stM M 0 9 0) 0 6 6)) := by
    unfold f_GM_atStatement
    by_cases q : c = 58
    · have h0 : M 0 9 = 0 := hB.resolve_right (fun z => hc ⟨q, z⟩)
      show (if c = 58 then (if M 0 9 = 0 then _ else _) else _) = _
      rw [if_pos q, if_pos h0]
      rfl
    · show (if c = 58 then _ else _) = _
      rw [if_neg q]
      rfl
  rw [e, gm_L, gm_V]
  by_cases q0 : c = 125
  · rw [if_pos q0, if_pos q0]
  · rw [if_neg q0, if_neg q0]
    by_cases q1 : isL c
    · rw [if_pos q1, if_pos q1, if_neg (show ¬ (1 : Int32) = 0 from by decide)]
    · rw [if_neg q1, if_neg q1, if_pos (show (0 : Int32) = 0 from rfl)]
      by_cases q2 : isV c
      · rw [if_pos q2, if_pos q2, if_neg (show ¬ (1 : Int32) = 0 from by decide)]
      · rw [if_neg q2, if_neg q2, if_pos (show (0 : Int32) = 0 from rfl)]
        by_cases q3 : c = 33
        · rw [if_pos q3, if_pos q3, if_pos q3]
        · rw [if_neg q3, if_neg q3]
          by_cases q4 : c = 63
          · rw [if_pos q4, if_neg q3, if_pos q4, if_pos q4]
          · rw [if_neg q4, if_neg q4]
            by_cases q5 : c = 64
            · simp only [if_pos q5, if_neg q3, if_neg q4]
            · simp only [if_neg q5, if_neg q3, if_neg q4]
theorem ms_23 {t : Nat → Int32} {M : MS} {p : Nat} {stk : List (Nat × Nat)} {e h : Nat} {x : Int32} {g : Nat} {pr : Int32} {st : Nat} (he : e = 2 ∨ e = 3) (hW : WS t p (stk, e, h, x, g, pr, st)) (hR : RM t M (stk, e, h, x, g, pr, st)) : MT t p (stk, e, h, x, g, pr, st) (f_GM_stands M (t p)) := by
  obtain ⟨a1, a2, a3, a4, a5, a6, a7, a8, a9, a10, a11, a12, a13⟩ := hW
  obtain ⟨hd, hm, h6, h9, h1, h4, h7, h8⟩ := hR
  have n0 : ¬ e = 0 := by omega
  have n1 : ¬ e = 1 := by omega
  have hs2 : M 0 6 = nI 2 := by rw [h6]; rcases he with rfl | rfl <;> rfl
  rw [st_2 hs2]
  have hB : bl (M 0 9) := by
    rw [h9]
    by_cases q : e = 3
    · rw [if_pos q]; exact Or.inr rfl
    · rw [if_neg q]; exact Or.inl rfl
  by_cases q : e = 3 ∧ t p = 58
  · rw [as_c q.2 (by rw [h9, if_pos q.1])]
    refine MT_some (r' := (stk, 1, p, x, g, pr, st)) (by simp only [stepR, if_neg n0, if_neg n1, if_pos q]) rfl ⟨?_, ?_, ?_, ?_, fun _ => ?_, fun z => by omega, fun z => by omega, fun z => by omega⟩
    · simp [stM_at, hd]
    · rw [stM_04, stM_04, stM_04]; exact hm
    · rw [stM_at]; simp; rfl
    · simp [stM_at]
    · rw [kd_5 q.2]; simp [stM_at]; rfl
  · rw [as_n (fun z => q ⟨by
      have w := z.2
      rw [h9] at w
      by_cases q3 : e = 3
      · exact q3
      · rw [if_neg q3] at w; exact absurd w (by decide), z.1⟩) hB]
    by_cases q0 : t p = 125
    · rw [if_pos q0]
      match stk, hd, hm, a6, a10, a13 with
      | [], _, _, _, a10, _ => exact absurd rfl (a10 (by omega))
      | a :: l, hd, hm, a6, a10, a13 =>
        have hl : l.length + 1 ≤ 6 := a13
        have hEB := a6 (by omega)
        rw [hd, show nI (a :: l).length - 1 = nI l.length from nI_pred _, ix_nI (i := l.length) (n := 8) (by omega) (by omega), gdt, nI_clamp (by omega), hm.1]
        have hst : stepR t p (a :: l, e, h, x, g, pr, st) = some (l, (if isL (t a.1) then 0 else if t a.1 = 63 then 3 else 2), h, x, g, pr, st) := by simp only [stepR, if_neg n0, if_neg n1, if_neg q, if_pos he, if_pos q0]
        have key : ∀ (z s2 : Int32) (e' : Nat), e' ≤ 3 → z = (if e' = 3 then 1 else 0) → s2 = nI (mst e') → e' ≠ 1 → RM t (stM (stM (stM (stM M 0 9 0) 0 5 (nI l.length)) 0 9 z) 0 6 s2) (l, e', h, x, g, pr, st) := by
          intro z s2 e' h3 hz hs2 hn1
          refine ⟨?_, ?_, ?_, ?_, fun w => absurd w hn1, fun w => by omega, fun w => by omega, fun w => by omega⟩
          · simp [stM_at]
          · rw [stM_04, stM_04, stM_04, stM_04]; exact hm.2
          · simp [stM_at, hs2]
          · simp [stM_at, hz]
        by_cases q1 : isL (t a.1)
        · have hl0 : l = [] := hEB.1.2.2.1.mp (kd_L.mp q1)
          rw [kd_L.mp q1, if_neg (show ¬ nI 3 = 4 from by decide), if_pos (show nI l.length = 0 from by rw [hl0]; rfl)]
          rw [if_pos q1] at hst
          exact MT_some hst rfl (key 0 0 0 (by omega) rfl rfl (by omega))
        · have hl0 : l ≠ [] := fun w => q1 (kd_L.mpr (hEB.1.2.2.1.mpr w))
          have hl1 : ¬ nI l.length = 0 := nI_ne0 (List.length_pos_iff.mpr hl0) (by omega)
          rw [if_neg q1] at hst
          by_cases q2 : t a.1 = 63
          · rw [kd_4 q2, if_pos (show nI 4 = 4 from rfl), if_neg hl1]
            rw [if_pos q2] at hst
            exact MT_some hst rfl (key 1 2 3 (by omega) rfl rfl (by omega))
          · rw [if_neg (show ¬ nI (kd t a.1) = 4 from fun w => q2 (kd_63 ((nI_eq (b := 4) (by have := kd_le t a.1; omega) (by omega)).mp w))), if_neg hl1]
            rw [if_neg q2] at hst
            exact MT_some hst rfl (key 0 2 2 (by omega) rfl rfl (by omega))
    · rw [if_neg q0]
      have key : ∀ (M' : MS) (kk s2 : Int32) (e' : Nat) (x' : Int32), M' 0 5 = M 0 5 → M' 4 = M 4 → M' 0 6 = nI (mst e') → M' 0 9 = 0 → 4 ≤ e' → e' ≤ 6 → (e' ≠ 5 → M' 0 7 = nI (kx t p x')) → RM t M' (stk, e', p, x', g, pr, st + 1) := by
        intro M' kk s2 e' x' b1 b2 b3 b4 b5 b6 b7
        exact ⟨by rw [b1]; exact hd, by rw [b2]; exact hm, b3, by rw [b4, if_neg (by omega)], fun w => by omega, fun _ w => b7 w, fun w => by omega, fun w => by omega⟩
      have LV : isL (t p) → ¬ isV (t p) := fun z => by omega
      by_cases q1 : isL (t p)
      · rw [if_pos q1]
        exact MT_some (r' := (stk, 5, p, 59, g, pr, st + 1)) (by simp only [stepR, if_neg n0, if_neg n1, if_neg q, if_pos he, if_neg q0, if_neg (LV q1), if_pos q1]) rfl (key _ 0 0 5 59 (by simp [stM_at]) (by rw [stM_04, stM_04]) (by rw [stM_at]; simp; rfl) (by simp [stM_at]) (by omega) (by omega) (fun w => absurd rfl w))
      · rw [if_neg q1]
        by_cases q2 : isV (t p)
        · rw [if_pos q2]
          exact MT_some (r' := (stk, 4, p, 59, g, pr, st + 1)) (by simp only [stepR, if_neg n0, if_neg n1, if_neg q, if_pos he, if_neg q0, if_pos q2]) rfl (key _ 0 0 4 59 (by simp [stM_at]) (by rw [stM_04, stM_04, stM_04]) (by rw [stM_at]; simp; rfl) (by simp [stM_at]) (by omega) (by omega) (fun _ => by simp [stM_at]; rfl))
        · rw [if_neg q2]
          by_cases q3 : t p = 33
          · rw [if_pos q3]
            exact MT_some (r' := (stk, 6, p, 59, g, pr, st + 1)) (by simp only [stepR, if_neg n0, if_neg n1, if_neg q, if_pos he, if_neg q0, if_neg q1, if_neg q2, if_pos q3]) rfl (key _ 0 0 6 59 (by simp [stM_at]) (by rw [stM_04, stM_04, stM_04]) (by rw [stM_at]; simp; rfl) (by simp [stM_at]) (by omega) (by omega) (fun _ => by simp [stM_at]; rfl))
          · rw [if_neg q3]
            by_cases q4 : t p = 63
            · rw [if_pos q4]
              exact MT_some (r' := (stk, 6, p, 123, g, pr, st + 1)) (by simp only [stepR, if_neg n0, if_neg n1, if_neg q, if_pos he, if_neg q0, if_neg q1, if_neg q2, if_neg q3, if_pos (Or.inl q4 : t p = 63 ∨ t p = 64)]) rfl (key _ 0 0 6 123 (by simp [stM_at]) (by rw [stM_04, stM_04, stM_04]) (by rw [stM_at]; simp; rfl) (by simp [stM_at]) (by omega) (by omega) (fun _ => by unfold kx; rw [if_neg (by decide), kd_4 q4]; simp [stM_at]; rfl))
            · rw [if_neg q4]
              by_cases q5 : t p = 64
              · rw [if_pos q5]
                exact MT_some (r' := (stk, 6, p, 123, g, pr, st + 1)) (by simp only [stepR, if_neg n0, if_neg n1, if_neg q, if_pos he, if_neg q0, if_neg q1, if_neg q2, if_neg q3, if_pos (Or.inr q5 : t p = 63 ∨ t p = 64)]) rfl (key _ 0 0 6 123 (by simp [stM_at]) (by rw [stM_04, stM_04, stM_04]) (by rw [stM_at]; simp; rfl) (by simp [stM_at]) (by omega) (by omega) (fun _ => by unfold kx; rw [if_neg (by decide), kd_6 q5]; simp [stM_at]; rfl))
              · rw [if_neg q5]
                exact MT_none (by simp only [stepR, if_neg n0, if_neg n1, if_neg q, if_pos he, if_neg q0, if_neg q1, if_neg q2, if_neg q3, if_neg (fun w => w.elim q4 q5 : ¬ (t p = 63 ∨ t p = 64))]) rfl
