theorem gdt {β : Type} (o : Option β) : gd true o = o := rfl
theorem isB_0 : isB 0 = true := by decide
theorem isB_1 : isB 1 = true := by decide
theorem ms_0 {t : Nat → Int32} {M : MS} {p : Nat} {stk : List (Nat × Nat)} {h : Nat} {x : Int32} {g : Nat} {pr : Int32} {st : Nat} (hR : RM t M (stk, 0, h, x, g, pr, st)) : MT t p (stk, 0, h, x, g, pr, st) (f_GM_stands M (t p)) := by
  obtain ⟨hd, hm, h6, h9, h1, h4, h7, h8⟩ := hR
  have e : f_GM_stands M (t p) = some (f_GM_isLetter (t p), stM (stM M 0 7 3) 0 6 1) := by
    unfold f_GM_stands
    rw [h6, if_pos (show nI (mst 0) = 0 from rfl)]
    rfl
  rw [e, gm_L]
  by_cases q : isL (t p)
  · rw [if_pos q]
    refine MT_some (r' := (stk, 1, p, x, g, t p - 65, 0)) (by simp [stepR, q]) rfl ⟨?_, ?_, ?_, ?_, fun _ => ?_, fun z => by omega, fun z => by omega, fun z => by omega⟩
    · simp [stM_at, hd]
    · rw [stM_04, stM_04]; exact hm
    · rw [stM_at]; simp; rfl
    · simp [stM_at, h9]
    · rw [kd_L.mp q, stM_at, stM_at]; simp; rfl
  · rw [if_neg q]
    exact MT_none (by simp only [stepR, if_neg q, if_true]) rfl
theorem ms_1 {t : Nat → Int32} {M : MS} {p : Nat} {stk : List (Nat × Nat)} {h : Nat} {x : Int32} {g : Nat} {pr : Int32} {st : Nat} (hl : stk.length ≤ 6) (hR : RM t M (stk, 1, h, x, g, pr, st)) : MT t p (stk, 1, h, x, g, pr, st) (f_GM_stands M (t p)) := by
  obtain ⟨hd, hm, h6, h9, h1, h4, h7, h8⟩ := hR
  have h1 := h1 rfl
  have e : f_GM_stands M (t p) = if t p = 123 then bd2 (f_GM_push M (M 0 7) 2) (fun x42 S42 => if x42 = 0 then gd (isB 0) (some (0, S42)) else gd (isB 1) (some (1, S42))) else gd (isB 0) (some (0, M)) := by
    unfold f_GM_stands
    rw [h6, if_neg (show ¬ nI (mst 1) = 0 from by decide), if_pos (show nI (mst 1) = 1 from rfl)]
    rfl
  rw [e]
  by_cases q : t p = 123
  · rw [if_pos q]
    by_cases q2 : stk.length < 6
    · rw [push_s hd q2]
      refine MT_some (M' := stM (stM (stM M 4 stk.length (M 0 7)) 0 5 (nI (stk.length + 1))) 0 6 2) (r' := ((h, p) :: stk, 2, h, x, g, pr, st)) (by simp [stepR, q, q2]) rfl ⟨?_, ⟨?_, ?_⟩, ?_, ?_, fun z => by omega, fun z => by omega, fun z => by omega, fun z => by omega⟩
      · simp [stM_at]
      · rw [stM_04, stM_04, stM_s, upd_s]; exact h1
      · rw [stM_04, stM_04, stM_s]; exact MK_upd hm (Nat.le_refl _)
      · rw [stM_at]; simp; rfl
      · simp [stM_at, h9]
    · rw [push_f (show M 0 5 = nI 6 from by rw [hd, show stk.length = 6 from by omega])]
      exact MT_none (by simp [stepR, q, q2]) rfl
  · rw [if_neg q]
    exact MT_none (M' := M) (by simp [stepR, q]) rfl
theorem ms_45 {t : Nat → Int32} {M : MS} {p : Nat} {stk : List (Nat × Nat)} {e h : Nat} {x : Int32} {g : Nat} {pr : Int32} {st : Nat} (he : e = 4 ∨ e = 5) (hR : RM t M (stk, e, h, x, g, pr, st)) : MT t p (stk, e, h, x, g, pr, st) (f_GM_stands M (t p)) := by
  obtain ⟨hd, hm, h6, h9, h1, h4, h7, h8⟩ := hR
  rcases he with rfl | rfl
  · have e : f_GM_stands M (t p) = if t p = 61 then gd (isB 1) (some (1, stM M 0 6 4)) else gd (isB 0) (some (0, stM M 0 6 4)) := by
      unfold f_GM_stands
      simp only [h6]
      rw [if_neg (show ¬ nI (mst 4) = 0 from by decide), if_neg (show ¬ nI (mst 4) = 1 from by decide), if_neg (show ¬ nI (mst 4) = 2 from by decide), if_neg (show ¬ nI (mst 4) = 4 from by decide), if_neg (show ¬ nI (mst 4) = 5 from by decide)]
      unfold jn
      simp only [h6]
      rw [if_pos (show nI (mst 4) = 3 from rfl), if_pos (show nI (mst 4) = 3 from rfl)]
      rfl
    rw [e]
    by_cases q : t p = 61
    · rw [if_pos q]
      refine MT_some (r' := (stk, 6, h, x, g, pr, st)) (by simp [stepR, q]) rfl ⟨?_, ?_, ?_, ?_, fun z => by omega, fun _ _ => ?_, fun z => by omega, fun z => by omega⟩
      · simp [stM_at, hd]
      · rw [stM_04]; exact hm
      · rw [stM_at]; simp; rfl
      · simp [stM_at, h9]
      · simp [stM_at, h4]
    · rw [if_neg q]
      exact MT_none (by simp [stepR, q]) rfl
  · have e : f_GM_stands M (t p) = if t p = 59 then gd (isB 1) (some (1, stM M 0 6 2)) else gd (isB 0) (some (0, stM M 0 6 2)) := by
      unfold f_GM_stands
      simp only [h6]
      rw [if_neg (show ¬ nI (mst 5) = 0 from by decide), if_neg (show ¬ nI (mst 5) = 1 from by decide), if_neg (show ¬ nI (mst 5) = 2 from by decide), if_neg (show ¬ nI (mst 5) = 4 from by decide), if_neg (show ¬ nI (mst 5) = 5 from by decide)]
      unfold jn
      simp only [h6]
      rw [if_neg (show ¬ nI (mst 5) = 3 from by decide), if_neg (show ¬ nI (mst 5) = 3 from by decide)]
      rfl
    rw [e]
    by_cases q : t p = 59
    · rw [if_pos q]
      refine MT_some (r' := (stk, 2, h, x, g, pr, st)) (by simp [stepR, q]) rfl ⟨?_, ?_, ?_, ?_, fun z => by omega, fun z => by omega, fun z => by omega, fun z => by omega⟩
      · simp [stM_at, hd]
      · rw [stM_04]; exact hm
      · rw [stM_at]; simp; rfl
      · simp [stM_at, h9]
    · rw [if_neg q]
      exact MT_none (by simp [stepR, q]) rfl
