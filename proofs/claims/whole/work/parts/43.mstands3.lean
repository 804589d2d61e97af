theorem ao_e (M : MS) (c : Int32) : f_GM_atOperand M c = if c = 40 then f_GM_push M 1 4 else if isP c then f_GM_push M 2 4 else if isD c then bd (f_GM_operandEnds (stM M 0 8 1)) (fun S => some (1, S)) else if isV c then bd (f_GM_operandEnds (stM M 0 8 9)) (fun S => some (1, S)) else some (0, M) := by
  have b2 : ∀ (o : Option (Int32 × MS)), bd2 o (fun x S => some (x, S)) = o := fun o => by cases o <;> rfl
  have e : f_GM_atOperand M c = if c = 40 then bd2 (f_GM_push M 1 4) (fun x S => some (x, S)) else if c = 126 then bd2 (f_GM_push M 2 4) (fun x S => some (x, S)) else if c = 45 then bd2 (f_GM_push M 2 4) (fun x S => some (x, S)) else if f_GM_in c 48 57 = 0 then (if f_GM_isVariable c = 0 then some (0, M) else if f_GM_in c 48 57 = 0 then bd (f_GM_operandEnds (stM M 0 8 9)) (fun S => some (1, S)) else bd (f_GM_operandEnds (stM M 0 8 1)) (fun S => some (1, S))) else if f_GM_in c 48 57 = 0 then bd (f_GM_operandEnds (stM M 0 8 9)) (fun S => some (1, S)) else bd (f_GM_operandEnds (stM M 0 8 1)) (fun S => some (1, S)) := rfl
  rw [e, b2, b2, gm_D, gm_V]
  by_cases q0 : c = 40
  · rw [if_pos q0, if_pos q0]
  · rw [if_neg q0, if_neg q0]
    by_cases q1 : c = 126
    · rw [if_pos q1, if_pos (Or.inl q1 : isP c)]
    · rw [if_neg q1]
      by_cases q2 : c = 45
      · rw [if_pos q2, if_pos (Or.inr q2 : isP c)]
      · rw [if_neg q2, if_neg (fun w => w.elim q1 q2 : ¬ isP c)]
        by_cases q3 : isD c
        · simp only [if_pos q3, if_neg (show ¬ (1 : Int32) = 0 from by decide)]
        · simp only [if_neg q3, if_pos (show (0 : Int32) = 0 from rfl)]
          by_cases q4 : isV c
          · simp only [if_pos q4, if_neg (show ¬ (1 : Int32) = 0 from by decide)]
          · simp only [if_neg q4, if_pos (show (0 : Int32) = 0 from rfl)]
theorem RM_end {t : Nat → Int32} {M : MS} {l : List (Nat × Nat)} {e h : Nat} {x : Int32} {g : Nat} {pr : Int32} {st : Nat} (he : e = 7 ∨ e = 8) (hm : MK t (M 4) l) (h9 : M 0 9 = 0) (h7 : M 0 7 = nI (kx t h x)) (hg : e = 7 → M 0 8 = nI g) (h8 : e = 8 → M 0 8 = 9) :
    RM t (stM (stM M 0 5 (nI (popP t l).length)) 0 6 5) (popP t l, e, h, x, g, pr, st) := by
  refine ⟨?_, ?_, ?_, ?_, fun w => by omega, fun _ _ => ?_, fun w => ?_, fun w => ?_⟩
  · simp [stM_at]
  · rw [stM_04, stM_04]; exact MK_pop hm
  · rw [stM_at]; rcases he with rfl | rfl <;> (simp; rfl)
  · rw [if_neg (by omega)]; simp [stM_at, h9]
  · simp [stM_at, h7]
  · simp [stM_at, hg w]
  · simp [stM_at, h8 w]
theorem ms_6 {t : Nat → Int32} {M : MS} {p : Nat} {stk : List (Nat × Nat)} {h : Nat} {x : Int32} {g : Nat} {pr : Int32} {st : Nat} (hW : WS t p (stk, 6, h, x, g, pr, st)) (hR : RM t M (stk, 6, h, x, g, pr, st)) : MT t p (stk, 6, h, x, g, pr, st) (f_GM_stands M (t p)) := by
  obtain ⟨a1, a2, a3, a4, a5, a6, a7, a8, a9, a10, a11, a12, a13⟩ := hW
  obtain ⟨hd, hm, h6, h9, h1, h4, h7, h8⟩ := hR
  have h4 := h4 (by omega) (by omega)
  have h9 : M 0 9 = 0 := h9
  rw [st_4 h6, ao_e]
  have pu : ∀ (kk : Int32), kk = nI (kd t p) → (t p = 40 ∨ isP (t p)) → MT t p (stk, 6, h, x, g, pr, st) (f_GM_push M kk 4) := by
    intro kk hk q0
    by_cases q2 : stk.length < 6
    · rw [push_s hd q2]
      refine MT_some (r' := ((p, p) :: stk, 6, h, x, g, pr, st)) (by simp [stepR, q0, q2]) rfl ⟨?_, ⟨?_, ?_⟩, ?_, ?_, fun w => by omega, fun _ _ => ?_, fun w => by omega, fun w => by omega⟩
      · simp [stM_at]
      · rw [stM_04, stM_04, stM_s, upd_s]; exact hk
      · rw [stM_04, stM_04, stM_s]; exact MK_upd hm (Nat.le_refl _)
      · rw [stM_at]; simp; rfl
      · simp [stM_at, h9]
      · simp [stM_at, h4]
    · rw [push_f (show M 0 5 = nI 6 from by rw [hd, show stk.length = 6 from by omega])]
      exact MT_none (by simp [stepR, q0, q2]) rfl
  by_cases q1 : t p = 40
  · rw [if_pos q1]
    exact pu 1 (by rw [kd_1 q1]; rfl) (Or.inl q1)
  · rw [if_neg q1]
    by_cases q2 : isP (t p)
    · rw [if_pos q2]
      exact pu 2 (by rw [kd_2 q2]; rfl) (Or.inr q2)
    · rw [if_neg q2]
      have q0 : ¬ (t p = 40 ∨ isP (t p)) := fun w => w.elim q1 q2
      have DV : isD (t p) → ¬ isV (t p) := fun z => by omega
      by_cases q3 : isD (t p)
      · rw [if_pos q3, oe_s (t := t) (l := stk) (M := stM M 0 8 1) (by simp [stM_at, hd]) a13 (by rw [stM_04]; exact hm)]
        exact MT_some (r' := (popP t stk, 7, h, x, 1, pr, st)) (by simp only [stepR, if_neg q0, if_neg (DV q3), if_pos q3]; rfl) rfl (RM_end (M := stM M 0 8 1) (Or.inl rfl) (by rw [stM_04]; exact hm) (by simp [stM_at, h9]) (by simp [stM_at, h4]) (fun _ => by simp [stM_at]; rfl) (fun w => by omega))
      · rw [if_neg q3]
        by_cases q4 : isV (t p)
        · rw [if_pos q4, oe_s (t := t) (l := stk) (M := stM M 0 8 9) (by simp [stM_at, hd]) a13 (by rw [stM_04]; exact hm)]
          exact MT_some (r' := (popP t stk, 8, h, x, g, pr, st)) (by simp only [stepR, if_neg q0, if_pos q4]; rfl) rfl (RM_end (M := stM M 0 8 9) (Or.inr rfl) (by rw [stM_04]; exact hm) (by simp [stM_at, h9]) (by simp [stM_at, h4]) (fun w => by omega) (fun _ => by simp [stM_at]))
        · rw [if_neg q4]
          exact MT_none (by simp only [stepR, if_neg q0, if_neg q4, if_neg q3]; rfl) rfl
theorem ap_e (M : MS) (c : Int32) : f_GM_afterOperand M c = if isD c then (if (4 : Int32) < M 0 8 + 1 then some (0, stM M 0 8 (M 0 8 + 1)) else some (1, stM M 0 8 (M 0 8 + 1)))
    else gd (ix (M 0 5 - 1) 8) (if isO c then some (1, stM M 0 6 4) else if M 4 (M 0 5 - 1).toNatClampNeg = 1 then (if c = 41 then bd (f_GM_operandEnds (stM (stM M 0 5 (M 0 5 - 1)) 0 8 9)) (fun S => some (1, S)) else some (0, M))
      else if c = 59 then (if M 0 7 = 0 then some (1, stM M 0 6 2) else some (0, M)) else if c = 123 then (if M 0 7 ≤ 0 then some (0, M) else bd2 (f_GM_push M (M 0 7) 2) (fun x S => if x = 0 then some (0, S) else some (1, S))) else some (0, M)) := by
  have e : f_GM_afterOperand M c = if f_GM_in c 48 57 = 0 then gd (ix (M 0 5 - 1) 8) (if M 4 (M 0 5 - 1).toNatClampNeg = 1 then
        (if f_GM_isOperator c = 0 then (if c = 41 then bd (f_GM_operandEnds (stM (stM M 0 5 (M 0 5 - 1)) 0 8 9)) (fun S => some (1, S)) else if c = 59 then (if c = 123 then some (0, M) else some (0, M)) else if c = 123 then some (0, M) else some (0, M)) else some (1, stM M 0 6 4))
      else (if f_GM_isOperator c = 0 then (if c = 41 then (if c = 59 then (if M 0 7 = 0 then some (1, stM M 0 6 2) else if c = 123 then (if M 0 7 ≤ 0 then some (0, M) else bd2 (f_GM_push M (M 0 7) 2) (fun x S => if x = 0 then some (0, S) else some (1, S))) else some (0, M)) else if c = 123 then (if M 0 7 ≤ 0 then some (0, M) else bd2 (f_GM_push M (M 0 7) 2) (fun x S => if x = 0 then some (0, S) else some (1, S))) else some (0, M)) else if c = 59 then (if M 0 7 = 0 then some (1, stM M 0 6 2) else if c = 123 then (if M 0 7 ≤ 0 then some (0, M) else bd2 (f_GM_push M (M 0 7) 2) (fun x S => if x = 0 then some (0, S) else some (1, S))) else some (0, M)) else if c = 123 then (if M 0 7 ≤ 0 then some (0, M) else bd2 (f_GM_push M (M 0 7) 2) (fun x S => if x = 0 then some (0, S) else some (1, S))) else some (0, M)) else some (1, stM M 0 6 4)))
    else (if (4 : Int32) < stM M 0 8 (M 0 8 + 1) 0 8 then some (0, stM M 0 8 (M 0 8 + 1)) else some (1, stM M 0 8 (M 0 8 + 1))) := rfl
  rw [e, gm_D, show stM M 0 8 (M 0 8 + 1) 0 8 = M 0 8 + 1 from by simp [stM_at]]
  by_cases q0 : isD c
  · simp only [if_pos q0, if_neg (show ¬ (1 : Int32) = 0 from by decide)]
  · simp only [if_neg q0, if_pos (show (0 : Int32) = 0 from rfl)]
    congr 1
    by_cases q1 : isO c
    · simp only [if_pos q1, if_neg (fun z => (gm_O c).mp z q1)]
      split <;> rfl
    · simp only [if_neg q1, if_pos ((gm_O c).mpr q1)]
      by_cases q2 : M 4 (M 0 5 - 1).toNatClampNeg = 1
      · simp only [if_pos q2]
        by_cases q3 : c = 41
        · simp only [if_pos q3]
        · simp only [if_neg q3]
          split
          · split <;> rfl
          · split <;> rfl
      · simp only [if_neg q2]
        by_cases q3 : c = 41
        · subst q3
          rfl
        · simp only [if_neg q3]
          by_cases q4 : c = 59
          · subst q4
            simp only [if_pos (show (59 : Int32) = 59 from rfl), if_neg (show ¬ (59 : Int32) = 123 from by decide)]
          · simp only [if_neg q4]
