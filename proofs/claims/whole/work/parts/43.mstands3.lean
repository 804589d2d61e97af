theorem ao_e (M : MS) (c : Int32) : f_GM_atOperand M c = if c = 40 then f_GM_push M 1 4 else if isP c then f_GM_push M 2 4 else if isD c then bd (f_GM_operandEnds (stM M 0 8 1)) (fun S => some (1, S)) else if isV c then bd (f_GM_operandEnds (stM M 0 8 9)) (fun S => some (1, S)) else some (0, M) := by
  have b2 : ∀ (o : Option (Int32 × MS)), bd2 o (fun x S => some (x, S)) = o := fun o => by cases o <;> rfl
  have e : f_GM_atOperand M c = if c = 40 then bd2 (f_GM_push M 1 4) (fun x S => some (x, S)) else if c = 126 then bd2 (f_GM_push M 2 4) (fun x S => some (x, S)) else if c = 45 then bd2 (f_GM_push M 2 4) (fun x S => some (x, S)) else if f_GM_in c 48 57 = 0 then (if f_GM_isVariable c = 0 then some (0, M) else if f_GM_in c 48 57 = 0 then bd (f_GM_operandEnds (stM M 0 8 9)) (fun S => some (1, S)) else bd (f_GM_operandEnds (stM M 0 8 1)) (fun S => some (1, S))) else if f_GM_in c 48 57 = 0 then bd (f_GM_operandEnds (stM M 0 8 9)) (fun S => some (1, S)) else bd (f_GM_operandEnds (stM M 0 8 1)) (fun S => some (1, S)) := rfl
  rw [e, b2, b2, gm_D, gm_V]
  by_cases q0 : c = 40
  · rw [if_pos q0, if_pos q0]
  · rw [if_neg q0, if_neg q0]
    by_cases q1 : c = 126
    · rw [if_pos q1, if_pos (Or.inl q1 : isP c)]
    · rw [if_neg q1]
      by_cases q2 : c = 45
      · rw [if_pos q2, if_pos (Or.inr q2 : isP c)]
      · rw [if_neg q2, if_neg (fun w => w.elim q1 q2 : ¬ isP c)]
        by_cases q3 : isD c
        · simp only [if_pos q3, if_neg (show ¬ (1 : Int32) = 0 from by decide)]
        · simp only [if_neg q3, if_true]
          by_cases q4 : isV c
          · simp only [if_pos q4, if_neg (show ¬ (1 : Int32) = 0 from by decide)]
          · simp only [if_neg q4, if_true]
theorem RM_end {t : Nat → Int32} {M : MS} {l : List (Nat × Nat)} {e h : Nat} {x : Int32} {g : Nat} {pr : Int32} {st : Nat} (he : e = 7 ∨ e = 8) (hm : MK t (M 4) l) (h9 : M 0 9 = 0) (h7 : M 0 7 = nI (kx t h x)) (hg : e = 7 → M 0 8 = nI g) (h8 : e = 8 → M 0 8 = 9) :
    RM t (stM (stM M 0 5 (nI (popP t l).length)) 0 6 5) (popP t l, e, h, x, g, pr, st) := by
  refine ⟨?_, ?_, ?_, ?_, fun w => by omega, fun _ _ => ?_, fun w => ?_, fun w => ?_⟩
  · simp [stM_at]
  · rw [stM_04, stM_04]; exact MK_pop hm
  · rw [stM_at]; rcases he with rfl | rfl <;> (simp; rfl)
  · rw [if_neg (by omega)]; simp [stM_at, h9]
  · simp [stM_at, h7]
  · simp [stM_at, hg w]
  · simp [stM_at, h8 w]
theorem ms_6 {t : Nat → Int32} {M : MS} {p : Nat} {stk : List (Nat × Nat)} {h : Nat} {x : Int32} {g : Nat} {pr : Int32} {st : Nat} (hW : WS t p (stk, 6, h, x, g, pr, st)) (hR : RM t M (stk, 6, h, x, g, pr, st)) : MT t p (stk, 6, h, x, g, pr, st) (f_GM_stands M (t p)) := by
  obtain ⟨a1, a2, a3, a4, a5, a6, a7, a8, a9, a10, a11, a12, a13⟩ := hW
  obtain ⟨hd, hm, h6, h9, h1, h4, h7, h8⟩ := hR
  have h4 := h4 (by omega) (by omega)
  have h9 : M 0 9 = 0 := h9
  rw [st_4 h6, ao_e]
  have pu : ∀ (kk : Int32), kk = nI (kd t p) → (t p = 40 ∨ isP (t p)) → MT t p (stk, 6, h, x, g, pr, st) (f_GM_push M kk 4) := by
    intro kk hk q0
    by_cases q2 : stk.length < 6
    · rw [push_s hd q2]
      refine MT_some (r' := ((p, p) :: stk, 6, h, x, g, pr, st)) (by simp [stepR, q0, q2]) rfl ⟨?_, ⟨?_, ?_⟩, ?_, ?_, fun w => by omega, fun _ _ => ?_, fun w => by omega, fun w => by omega⟩
      · simp [stM_at]
      · rw [stM_04, stM_04, stM_s, upd_s]; exact hk
      · rw [stM_04, stM_04, stM_s]; exact MK_upd hm (Nat.le_refl _)
      · rw [stM_at]; simp; rfl
      · simp [stM_at, h9]
      · simp [stM_at, h4]
    · rw [push_f (show M 0 5 = nI 6 from by rw [hd, show stk.length = 6 from by omega])]
      exact MT_none (by simp [stepR, q0, q2]) rfl
  by_cases q1 : t p = 40
  · rw [if_pos q1]
    exact pu 1 (by rw [kd_1 q1]; rfl) (Or.inl q1)
  · rw [if_neg q1]
    by_cases q2 : isP (t p)
    · rw [if_pos q2]
      exact pu 2 (by rw [kd_2 q2]; rfl) (Or.inr q2)
    · rw [if_neg q2]
      have q0 : ¬ (t p = 40 ∨ isP (t p)) := fun w => w.elim q1 q2
      have DV : isD (t p) → ¬ isV (t p) := fun z => by omega
      by_cases q3 : isD (t p)
      · rw [if_pos q3, oe_s (t := t) (l := stk) (M := stM M 0 8 1) (by simp [stM_at, hd]) a13 (by rw [stM_04]; exact hm)]
        exact MT_some (r' := (popP t stk, 7, h, x, 1, pr, st)) (by simp only [stepR, if_neg q0, if_neg (DV q3), if_pos q3]; rfl) rfl (RM_end (M := stM M 0 8 1) (Or.inl rfl) (by rw [stM_04]; exact hm) (by simp [stM_at, h9]) (by simp [stM_at, h4]) (fun _ => by simp [stM_at]; rfl) (fun w => by omega))
      · rw [if_neg q3]
        by_cases q4 : isV (t p)
        · rw [if_pos q4, oe_s (t := t) (l := stk) (M := stM M 0 8 9) (by simp [stM_at, hd]) a13 (by rw [stM_04]; exact hm)]
          exact MT_some (r' := (popP t stk, 8, h, x, g, pr, st)) (by simp only [stepR, if_neg q0, if_pos q4]; rfl) rfl (RM_end (M := stM M 0 8 9) (Or.inr rfl) (by rw [stM_04]; exact hm) (by simp [stM_at, h9]) (by simp [stM_at, h4]) (fun w => by omega) (fun _ => by simp [stM_at]))
        · rw [if_neg q4]
          exact MT_none (by simp only [stepR, if_neg q0, if_neg q4, if_neg q3]; rfl) rfl
theorem ap_e (M : MS) (c : Int32) : f_GM_afterOperand M c = if isD c then (if (4 : Int32) < M 0 8 + 1 then some (0, stM M 0 8 (M 0 8 + 1)) else some (1, stM M 0 8 (M 0 8 + 1)))
    else gd (ix (M 0 5 - 1) 8) (if isO c then some (1, stM M 0 6 4) else if M 4 (M 0 5 - 1).toNatClampNeg = 1 then (if c = 41 then bd (f_GM_operandEnds (stM (stM M 0 5 (M 0 5 - 1)) 0 8 9)) (fun S => some (1, S)) else some (0, M))
      else if c = 59 then (if M 0 7 = 0 then some (1, stM M 0 6 2) else some (0, M)) else if c = 123 then (if M 0 7 ≤ 0 then some (0, M) else bd2 (f_GM_push M (M 0 7) 2) (fun x S => if x = 0 then some (0, S) else some (1, S))) else some (0, M)) := by
  have e : f_GM_afterOperand M c = if f_GM_in c 48 57 = 0 then gd (ix (M 0 5 - 1) 8) (if M 4 (M 0 5 - 1).toNatClampNeg = 1 then
        (if f_GM_isOperator c = 0 then (if c = 41 then bd (f_GM_operandEnds (stM (stM M 0 5 (M 0 5 - 1)) 0 8 9)) (fun S => some (1, S)) else if c = 59 then (if c = 123 then some (0, M) else some (0, M)) else if c = 123 then some (0, M) else some (0, M)) else some (1, stM M 0 6 4))
      else (if f_GM_isOperator c = 0 then (if c = 41 then (if c = 59 then (if M 0 7 = 0 then some (1, stM M 0 6 2) else if c = 123 then (if M 0 7 ≤ 0 then some (0, M) else bd2 (f_GM_push M (M 0 7) 2) (fun x S => if x = 0 then some (0, S) else some (1, S))) else some (0, M)) else if c = 123 then (if M 0 7 ≤ 0 then some (0, M) else bd2 (f_GM_push M (M 0 7) 2) (fun x S => if x = 0 then some (0, S) else some (1, S))) else some (0, M)) else if c = 59 then (if M 0 7 = 0 then some (1, stM M 0 6 2) else if c = 123 then (if M 0 7 ≤ 0 then some (0, M) else bd2 (f_GM_push M (M 0 7) 2) (fun x S => if x = 0 then some (0, S) else some (1, S))) else some (0, M)) else if c = 123 then (if M 0 7 ≤ 0 then some (0, M) else bd2 (f_GM_push M (M 0 7) 2) (fun x S => if x = 0 then some (0, S) else some (1, S))) else some (0, M)) else some (1, stM M 0 6 4)))
    else (if (4 : Int32) < stM M 0 8 (M 0 8 + 1) 0 8 then some (0, stM M 0 8 (M 0 8 + 1)) else some (1, stM M 0 8 (M 0 8 + 1))) := rfl
  rw [e, gm_D, show stM M 0 8 (M 0 8 + 1) 0 8 = M 0 8 + 1 from by simp [stM_at]]
  by_cases q0 : isD c
  · rw [if_pos q0, if_pos q0, if_neg (show ¬ (1 : Int32) = 0 from by decide)]
  · rw [if_neg q0, if_neg q0, if_pos rfl]
    refine congrArg (gd _) ?_
    by_cases q1 : isO c
    · have w : ¬ f_GM_isOperator c = 0 := fun z => (gm_O c).mp z q1
      rw [if_pos q1, if_neg w, if_neg w, ite_self]
    · have w : f_GM_isOperator c = 0 := (gm_O c).mpr q1
      rw [if_neg q1, if_pos w, if_pos w]
      by_cases q2 : M 4 (M 0 5 - 1).toNatClampNeg = 1
      · rw [if_pos q2, if_pos q2]
        by_cases q3 : c = 41
        · rw [if_pos q3, if_pos q3]
        · rw [if_neg q3, if_neg q3]
          split
          · split <;> rfl
          · split <;> rfl
      · rw [if_neg q2, if_neg q2]
        by_cases q3 : c = 41
        · subst q3
          rfl
        · rw [if_neg q3]
          by_cases q4 : c = 59
          · subst q4
            rfl
          · rw [if_neg q4, if_neg q4]
theorem ms_78 {t : Nat → Int32} {M : MS} {p : Nat} {stk : List (Nat × Nat)} {e h : Nat} {x : Int32} {g : Nat} {pr : Int32} {st : Nat} (he : e = 7 ∨ e = 8) (hW : WS t p (stk, e, h, x, g, pr, st)) (hR : RM t M (stk, e, h, x, g, pr, st)) : MT t p (stk, e, h, x, g, pr, st) (f_GM_stands M (t p)) := by
  obtain ⟨a1, a2, a3, a4, a5, a6, a7, a8, a9, a10, a11, a12, a13⟩ := hW
  obtain ⟨hd, hm, h6, h9, h1, h4, h7, h8⟩ := hR
  have h4 := h4 (by omega) (by omega)
  have h9 : M 0 9 = 0 := by rw [h9, if_neg (by omega)]
  have n0 : ¬ e = 0 := by omega
  have n1 : ¬ e = 1 := by omega
  have n3 : ¬ (e = 3 ∧ t p = 58) := fun z => by omega
  have n2 : ¬ (e = 2 ∨ e = 3) := by omega
  have n4 : ¬ e = 4 := by omega
  have n5 : ¬ e = 5 := by omega
  have n6 : ¬ e = 6 := by omega
  have hx := a11 (by omega)
  rw [st_5 (by rw [h6]; rcases he with rfl | rfl <;> rfl), ap_e]
  by_cases q0 : isD (t p)
  · rw [if_pos q0]
    rcases he with rfl | rfl
    · have h7 := h7 rfl
      rw [h7, nI_1]
      by_cases q1 : g < 4
      · rw [if_neg (show ¬ (4 : Int32) < nI (g + 1) from nI_nlt (b := g + 1) (a := 4) (by omega) (by omega))]
        refine MT_some (r' := (stk, 7, h, x, g + 1, pr, st)) (by simp only [stepR, if_neg n0, if_neg n1, if_neg n3, if_neg n2, if_neg n4, if_neg n5, if_neg n6, true_and, if_pos q0, if_pos q1]) rfl ⟨?_, ?_, ?_, ?_, fun w => by omega, fun _ _ => ?_, fun w => ?_, fun w => by omega⟩
        · simp [stM_at, hd]
        · rw [stM_04]; exact hm
        · simp [stM_at, h6]
        · simp [stM_at, h9]
        · simp [stM_at, h4]
        · simp [stM_at]
      · rw [if_pos (show (4 : Int32) < nI (g + 1) from nI_lt (a := 4) (by omega) (by omega))]
        exact MT_none (by simp only [stepR, if_neg n0, if_neg n1, if_neg n3, if_neg n2, if_neg n4, if_neg n5, if_neg n6, true_and, if_pos q0, if_neg q1]) rfl
    · rw [h8 rfl, if_pos (show (4 : Int32) < 9 + 1 from by decide)]
      refine MT_none ?_ rfl
      have m1 : ¬ (8 = 7 ∧ isD (t p)) := fun z => by omega
      have m2 : ¬ isO (t p) := fun z => by rcases z with z | z | z | z | z | z | z <;> (rw [z] at q0; revert q0; decide)
      simp only [stepR, if_neg n0, if_neg n1, if_neg n3, if_neg n2, if_neg n4, if_neg n5, if_neg n6, if_neg m1, if_neg m2]
      cases stk with
      | nil => rfl
      | cons a l =>
        have m3 : ¬ t p = 41 := fun z => by rw [z] at q0; revert q0; decide
        have m4 : ¬ t p = x := fun z => by
          rcases hx with w | w
          · rw [z, w] at q0; exact absurd q0 (by decide)
          · rw [z, w.1] at q0; exact absurd q0 (by decide)
        simp only [if_neg m3, if_neg m4, ite_self]
  · rw [if_neg q0]
    have m1 : ¬ (e = 7 ∧ isD (t p)) := fun z => q0 z.2
    match stk, hd, hm, a7, a12, a13 with
    | [], _, _, a7, _, _ => exact absurd (a7 (by omega)) id
    | a :: l, hd, hm, a7, a12, a13 =>
      have hl : l.length + 1 ≤ 6 := a13
      rw [hd, show nI (a :: l).length - 1 = nI l.length from nI_pred _, ix_nI (i := l.length) (n := 8) (by omega) (by omega), gdt, nI_clamp (by omega), hm.1]
      by_cases q1 : isO (t p)
      · rw [if_pos q1]
        refine MT_some (r' := (a :: l, 6, h, x, g, pr, st)) (by simp only [stepR, if_neg n0, if_neg n1, if_neg n3, if_neg n2, if_neg n4, if_neg n5, if_neg n6, if_neg m1, if_pos q1]) rfl ⟨?_, ?_, ?_, ?_, fun w => by omega, fun _ _ => ?_, fun w => by omega, fun w => by omega⟩
        · simp [stM_at, hd]
        · rw [stM_04]; exact hm
        · rw [stM_at]; simp; rfl
        · simp [stM_at, h9]
        · simp [stM_at, h4]
      · rw [if_neg q1]
        have hst : stepR t p (a :: l, e, h, x, g, pr, st) = if t a.1 = 40 then (if t p = 41 then some (popP t l, 8, h, x, g, pr, st) else none) else if t p = x then (if t p = 123 then (if (a :: l).length < 6 then some ((h, p) :: a :: l, 2, h, x, g, pr, st) else none) else some (a :: l, 2, h, x, g, pr, st)) else none := by
          simp only [stepR, if_neg n0, if_neg n1, if_neg n3, if_neg n2, if_neg n4, if_neg n5, if_neg n6, if_neg m1, if_neg q1]
        by_cases q2 : t a.1 = 40
        · rw [if_pos (show nI (kd t a.1) = 1 from by rw [kd_1 q2]; rfl)]
          rw [if_pos q2] at hst
          by_cases q3 : t p = 41
          · rw [if_pos q3, oe_s (t := t) (l := l) (M := stM (stM M 0 5 (nI l.length)) 0 8 9) (by simp [stM_at]) (by omega) (by rw [stM_04, stM_04]; exact hm.2)]
            rw [if_pos q3] at hst
            exact MT_some hst rfl (RM_end (M := stM (stM M 0 5 (nI l.length)) 0 8 9) (Or.inr rfl) (by rw [stM_04, stM_04]; exact hm.2) (by simp [stM_at, h9]) (by simp [stM_at, h4]) (fun w => by omega) (fun _ => by simp [stM_at]))
          · rw [if_neg q3]
            rw [if_neg q3] at hst
            exact MT_none hst rfl
        · rw [if_neg (show ¬ nI (kd t a.1) = 1 from fun z => q2 (kd_40 ((nI_eq (b := 1) (by have := kd_le t a.1; omega) (by omega)).mp z)))]
          rw [if_neg q2] at hst
          rw [h4]
          rcases hx with hx | ⟨hx, hk⟩
          · have hkx : kx t h x = 0 := by unfold kx; rw [if_pos hx]
            rw [hkx]
            by_cases q3 : t p = 59
            · rw [if_pos q3, if_pos (show nI 0 = 0 from rfl)]
              rw [if_pos (q3.trans hx.symm), if_neg (show ¬ t p = 123 from by rw [q3]; decide)] at hst
              refine MT_some hst rfl ⟨?_, ?_, ?_, ?_, fun w => by omega, fun w => by omega, fun w => by omega, fun w => by omega⟩
              · simp [stM_at, hd]
              · rw [stM_04]; exact hm
              · rw [stM_at]; simp; rfl
              · simp [stM_at, h9]
            · rw [if_neg q3, if_pos (show nI 0 ≤ 0 from by decide), ite_self]
              rw [if_neg (fun z => q3 (z.trans hx))] at hst
              exact MT_none hst rfl
          · have hkx : kx t h x = kd t h := by unfold kx; rw [if_neg (by rw [hx]; decide)]
            rw [hkx]
            have hkp : 0 < kd t h := by omega
            have hk6 := kd_le t h
            by_cases q3 : t p = 59
            · rw [if_pos q3, if_neg (show ¬ nI (kd t h) = 0 from nI_ne0 hkp (by omega))]
              rw [if_neg (fun z => by rw [q3, hx] at z; exact absurd z (by decide))] at hst
              exact MT_none hst rfl
            · rw [if_neg q3]
              by_cases q4 : t p = 123
              · rw [if_pos q4, if_neg (show ¬ nI (kd t h) ≤ 0 from nI_nle hkp (by omega))]
                rw [if_pos (q4.trans hx.symm), if_pos q4] at hst
                by_cases q5 : (a :: l).length < 6
                · rw [if_pos q5] at hst
                  rw [push_s (n := (a :: l).length) hd q5]
                  refine MT_some (M' := stM (stM (stM M 4 (a :: l).length (nI (kd t h))) 0 5 (nI ((a :: l).length + 1))) 0 6 2) hst rfl ⟨?_, ⟨?_, ?_⟩, ?_, ?_, fun z => by omega, fun z => by omega, fun z => by omega, fun z => by omega⟩
                  · simp [stM_at]
                  · rw [stM_04, stM_04, stM_s, upd_s]
                  · rw [stM_04, stM_04, stM_s]; exact MK_upd hm (Nat.le_refl _)
                  · rw [stM_at]; simp; rfl
                  · simp [stM_at, h9]
                · rw [if_neg q5] at hst
                  rw [push_f (show M 0 5 = nI 6 from by rw [hd, show (a :: l).length = 6 from by have := hl; have q5 : ¬ l.length + 1 < 6 := q5; show l.length + 1 = 6; omega])]
                  exact MT_none hst rfl
              · rw [if_neg q4]
                rw [if_neg (fun z => q4 (z.trans hx))] at hst
                exact MT_none hst rfl
theorem stands_spec {t : Nat → Int32} {M : MS} {p : Nat} {r : RS} (hW : WS t p r) (hR : RM t M r) : MT t p r (f_GM_stands M (t p)) := by
  obtain ⟨stk, e, h, x, g, pr, st⟩ := r
  have h8 : e ≤ 8 := hW.2.2.2.2.1
  have h6 : stk.length ≤ 6 := hW.2.2.2.2.2.2.2.2.2.2.2.2
  match e, h8, hW, hR with
  | 0, _, hW, hR => exact ms_0 hR
  | 1, _, hW, hR => exact ms_1 h6 hR
  | 2, _, hW, hR => exact ms_23 (Or.inl rfl) hW hR
  | 3, _, hW, hR => exact ms_23 (Or.inr rfl) hW hR
  | 4, _, hW, hR => exact ms_45 (Or.inl rfl) hR
  | 5, _, hW, hR => exact ms_45 (Or.inr rfl) hR
  | 6, _, hW, hR => exact ms_6 hW hR
  | 7, _, hW, hR => exact ms_78 (Or.inl rfl) hW hR
  | 8, _, hW, hR => exact ms_78 (Or.inr rfl) hW hR
