theorem nI_m1 (d : Nat) : nI (d + 1) + (-1) = nI d := by rw [← Int32.sub_eq_add_neg, nI_pred]
theorem i10 : ((1 : Int32) = 0) = False := eq_false (by decide)
theorem i00 : ((0 : Int32) = 0) = True := eq_true rfl
theorem i11 : ((1 : Int32) = 1) = True := eq_true rfl
theorem i01 : ((0 : Int32) = 1) = False := eq_false (by decide)
theorem gL_1 {c : Int32} (h : isL c) : f_GM_isLetter c = 1 := by rw [gm_L, if_pos h]
theorem gL_0 {c : Int32} (h : ¬ isL c) : f_GM_isLetter c = 0 := by rw [gm_L, if_neg h]
noncomputable def dp (t : Nat → Int32) (p : Nat) : Nat := (blk t (rr t p).1).length
theorem blk_len (t : Nat → Int32) : ∀ l : List (Nat × Nat), (blk t l).length ≤ l.length
  | [] => Nat.le_refl _
  | a :: l => by
    by_cases q : 3 ≤ kd t a.1
    · rw [blk_y q]; exact Nat.le_refl _
    · rw [blk_n q]; exact Nat.le_trans (blk_len t l) (Nat.le_succ _)
theorem dp_le {t : Nat → Int32} {n p : Nat} (h : WT t n) (hp : p ≤ n) : dp t p ≤ 6 := by
  have hW := h.ws hp
  obtain ⟨stk, e, hh, x, g, pr, st, w⟩ := rs7 (rr t p)
  have := blk_len t (rr t p).1
  unfold dp
  rw [w] at hW this ⊢
  exact Nat.le_trans this hW.2.2.2.2.2.2.2.2.2.2.2.2
/-- what depth and letters do at a sign -/
def Sh (t : Nat → Int32) (p : Nat) : Prop :=
  ((rr t p).2.1 = 0 ∧ isL (t p) ∧ t p ≠ 123 ∧ t p ≠ 125 ∧ dp t p = 0 ∧ dp t (p + 1) = 0) ∨
  (t p = 123 ∧ ¬ isL (t p) ∧ (rr t p).2.1 ≠ 0 ∧ dp t (p + 1) = dp t p + 1) ∨
  (t p = 125 ∧ ¬ isL (t p) ∧ (rr t p).2.1 ≠ 0 ∧ dp t p = dp t (p + 1) + 1) ∨
  (t p ≠ 123 ∧ t p ≠ 125 ∧ ¬ isL (t p) ∧ (rr t p).2.1 ≠ 0 ∧ dp t (p + 1) = dp t p) ∨
  (t p ≠ 123 ∧ t p ≠ 125 ∧ isL (t p) ∧ ((rr t p).2.1 = 2 ∨ (rr t p).2.1 = 3) ∧ dp t (p + 1) = dp t p ∧ 0 < dp t p)
theorem shape {t : Nat → Int32} {n p : Nat} (h : WT t n) (hp : p < n) : Sh t p := by
  obtain ⟨stk, e, hh, x, g, pr, st, w0⟩ := rs7 (rr t p)
  have hW := h.ws (Nat.le_of_lt hp)
  have k := kinds h hp w0
  have d0 : dp t p = (blk t stk).length := by unfold dp; rw [w0]
  rw [w0] at hW
  obtain ⟨a1, a2, a3, a4, a5, a6, a7, a8, a9, a10, a11, a12, a13⟩ := hW
  unfold Sh
  rw [w0, d0]
  rcases k with ⟨rfl, rfl, z, w⟩ | ⟨z, e1, k1, k2, k3, k4, k5, w⟩ | ⟨z, rfl, w⟩ | ⟨a, l, z, z2, rfl, w⟩ | ⟨e', x', z, z1, z2, z3, z4, z5, z6, w⟩ | ⟨s', e', g', z, z1, z2, z3, z4, z5, z6, z7, w⟩
  · have d1 : dp t (p + 1) = 0 := by unfold dp; rw [w]; rfl
    exact Or.inl ⟨rfl, z, nd (P := isL) 123 z (by decide), nd (P := isL) 125 z (by decide), rfl, d1⟩
  · have d1 : dp t (p + 1) = stk.length + 1 := by unfold dp; rw [w]; show (blk t ((hh, p) :: stk)).length = _; rw [blk_y k1]; rfl
    refine Or.inr (Or.inl ⟨z, by rw [z]; decide, by show e ≠ 0; omega, ?_⟩)
    rw [d1, blk_EB k3]
  · have d1 : dp t (p + 1) = (blk t stk).length := by unfold dp; rw [w]
    exact Or.inr (Or.inr (Or.inr (Or.inl ⟨by rw [z]; decide, by rw [z]; decide, by rw [z]; decide, by show (3 : Nat) ≠ 0; decide, d1⟩)))
  · have hE := a6 (by omega)
    have d1 : dp t (p + 1) = l.length := by unfold dp; rw [w]; show (blk t l).length = _; rw [blk_EB hE.2]
    refine Or.inr (Or.inr (Or.inl ⟨z, by rw [z]; decide, by show e ≠ 0; omega, ?_⟩))
    rw [d1, blk_EB hE]; rfl
  · have d1 : dp t (p + 1) = (blk t stk).length := by unfold dp; rw [w]
    by_cases q : isL (t p)
    · refine Or.inr (Or.inr (Or.inr (Or.inr ⟨z3, z2, q, z, d1, ?_⟩)))
      rw [blk_EB (a6 (by omega))]
      exact List.length_pos_iff.mpr (a10 (by omega))
    · exact Or.inr (Or.inr (Or.inr (Or.inl ⟨z3, z2, q, by show e ≠ 0; omega, d1⟩)))
  · have d1 : dp t (p + 1) = (blk t stk).length := by unfold dp; rw [w]; show (blk t s').length = _; rw [z7]
    exact Or.inr (Or.inr (Or.inr (Or.inl ⟨z3, z2, z4, by show e ≠ 0; omega, d1⟩)))
theorem pT_0 {t : Nat → Int32} {p : Nat} (h : (rr t p).2.1 = 0) : pT t (p + 1) = ((pT t p).1 ||| ((1 : Int32) <<< (nI (lno (t p)) &&& 31)), (if bt (pT t p).1 (lno (t p)) then 1 else (pT t p).2.1), upd (pT t p).2.2.1 (lno (t p)) (nI p), upd (pT t p).2.2.2 (lno (t p)) 0) := by
  show pS t p (rr t p) (pT t p) = _
  unfold pS
  rw [if_pos h]
theorem pT_n {t : Nat → Int32} {p : Nat} (h : (rr t p).2.1 ≠ 0) (hL : ¬ isL (t p)) : pT t (p + 1) = pT t p := by
  show pS t p (rr t p) (pT t p) = _
  unfold pS
  rw [if_neg h, if_neg (fun q => hL q.2)]
theorem pT_c {t : Nat → Int32} {p : Nat} (h : (rr t p).2.1 = 2 ∨ (rr t p).2.1 = 3) (hL : isL (t p)) : pT t (p + 1) = ((pT t p).1, (pT t p).2.1, (pT t p).2.2.1, upd (pT t p).2.2.2 (rr t p).2.2.2.2.2.1.toNatClampNeg ((pT t p).2.2.2 (rr t p).2.2.2.2.2.1.toNatClampNeg ||| ((1 : Int32) <<< (nI (lno (t p)) &&& 31)))) := by
  show pS t p (rr t p) (pT t p) = _
  unfold pS
  rw [if_neg (by omega), if_pos ⟨h, hL⟩]
theorem pT_tw {t : Nat → Int32} {p : Nat} : ∀ d, (pT t p).2.1 = 1 → (pT t (p + d)).2.1 = 1
  | 0, h => h
  | d + 1, h => by
    have ih := pT_tw d h
    show (pS t (p + d) (rr t (p + d)) (pT t (p + d))).2.1 = 1
    unfold pS
    split
    · show (if bt (pT t (p + d)).1 (lno (t (p + d))) then 1 else (pT t (p + d)).2.1) = 1
      split
      · rfl
      · exact ih
    · split
      · exact ih
      · exact ih
theorem twi_q {k n : Nat} {t : Nat → Int32} {M : MS} (hk : k < 3) (h : WT t n) (hT : TX M k n t) {K : MS → Int32 → Int32 → Int32 → Option (Int32 × MS)} : ∀ (f p : Nat), p ≤ n → n < p + f → (pT t p).2.1 = 0 →
    ((pT t n).2.1 = 0 ∧ ∃ d, q_GM_twice_10 f M (nI k) (pT t p).1 (nI (dp t p)) (nI (60 * k + p)) K = K M (pT t n).1 d (nI (60 * k + n))) ∨ ((pT t n).2.1 = 1 ∧ q_GM_twice_10 f M (nI k) (pT t p).1 (nI (dp t p)) (nI (60 * k + p)) K = some (1, M)) := by
  intro f
  induction f with
  | zero => intro p hp hf; omega
  | succ f ih =>
    intro p hp hf h0
    have h60 := h.1
    by_cases q : n ≤ p
    · have e : p = n := by omega
      subst e
      refine Or.inl ⟨h0, nI (dp t p), ?_⟩
      rw [q_GM_twice_10]
      simp only [lt, jn, n60, ix_nI hk (by omega), gdt, nI_clamp (show k < 2 ^ 31 by omega), hT.1, nI_add]
      rw [if_pos (nI_le (Nat.le_refl _) (by omega))]
    · have hle : ¬ nI (60 * k + n) ≤ nI (60 * k + p) := nI_ge (by omega) (by omega)
      have hd := dp_le h hp
      have ih1 := ih (p + 1) (by omega) (by omega)
      have e1 : q_GM_twice_10 (f + 1) M (nI k) (pT t p).1 (nI (dp t p)) (nI (60 * k + p)) K = (if nI (dp t p) = 0 then (if f_GM_isLetter (t p) = 0 then (if t p = 123 then (if t p = 125 then q_GM_twice_10 f M (nI k) (pT t p).1 (nI (dp t p) + 1 + (-1)) (nI (60 * k + (p + 1))) K else q_GM_twice_10 f M (nI k) (pT t p).1 (nI (dp t p) + 1) (nI (60 * k + (p + 1))) K) else (if t p = 125 then q_GM_twice_10 f M (nI k) (pT t p).1 (nI (dp t p) + (-1)) (nI (60 * k + (p + 1))) K else q_GM_twice_10 f M (nI k) (pT t p).1 (nI (dp t p)) (nI (60 * k + (p + 1))) K))
          else if ((pT t p).1 >>> ((t p - 65) &&& 31)) &&& 1 = 1 then some (1, M) else (if t p = 123 then (if t p = 125 then q_GM_twice_10 f M (nI k) ((pT t p).1 ||| ((1 : Int32) <<< ((t p - 65) &&& 31))) (nI (dp t p) + 1 + (-1)) (nI (60 * k + (p + 1))) K else q_GM_twice_10 f M (nI k) ((pT t p).1 ||| ((1 : Int32) <<< ((t p - 65) &&& 31))) (nI (dp t p) + 1) (nI (60 * k + (p + 1))) K) else (if t p = 125 then q_GM_twice_10 f M (nI k) ((pT t p).1 ||| ((1 : Int32) <<< ((t p - 65) &&& 31))) (nI (dp t p) + (-1)) (nI (60 * k + (p + 1))) K else q_GM_twice_10 f M (nI k) ((pT t p).1 ||| ((1 : Int32) <<< ((t p - 65) &&& 31))) (nI (dp t p)) (nI (60 * k + (p + 1))) K)))
          else (if t p = 123 then (if t p = 125 then q_GM_twice_10 f M (nI k) (pT t p).1 (nI (dp t p) + 1 + (-1)) (nI (60 * k + (p + 1))) K else q_GM_twice_10 f M (nI k) (pT t p).1 (nI (dp t p) + 1) (nI (60 * k + (p + 1))) K) else (if t p = 125 then q_GM_twice_10 f M (nI k) (pT t p).1 (nI (dp t p) + (-1)) (nI (60 * k + (p + 1))) K else q_GM_twice_10 f M (nI k) (pT t p).1 (nI (dp t p)) (nI (60 * k + (p + 1))) K))) := by
        rw [q_GM_twice_10]
        simp only [lt, jn, n60, ix_nI hk (by omega), gdt, nI_clamp (show k < 2 ^ 31 by omega), hT.1, nI_add, ix_nI (show 60 * k + p < 180 by omega) (by omega), nI_clamp (show 60 * k + p < 2 ^ 31 by omega), hT.2 p (by omega), if_neg hle, nI_1, Nat.add_assoc]
      rcases shape h (show p < n by omega) with ⟨z1, z2, z3, z4, z5, z6⟩ | ⟨z1, z2, z3, z4⟩ | ⟨z1, z2, z3, z4⟩ | ⟨z1, z2, z3, z4, z5⟩ | ⟨z1, z2, z3, z4, z5, z6⟩
      · obtain ⟨l1, l2, l3⟩ := lno_s z2
        simp only [gL_1 z2, z5, nI_0, i00, i10, if_true, if_false, l1, bt_ref _ l2, if_neg z3, if_neg z4] at e1
        rw [z5, nI_0, e1]
        rw [pT_0 z1, z6, nI_0] at ih1
        cases w : bt (pT t p).1 (lno (t p)) with
        | true =>
          right
          refine ⟨?_, rfl⟩
          have := pT_tw (t := t) (p := p + 1) (n - (p + 1)) (by rw [pT_0 z1, w]; rfl)
          rwa [show p + 1 + (n - (p + 1)) = n by omega] at this
        | false =>
          rw [w] at ih1
          exact ih1 h0
      · simp only [gL_0 z2, i00, if_true, if_pos z1, if_neg (show ¬ t p = 125 by rw [z1]; decide), nI_1, ite_self] at e1
        rw [e1]
        rw [pT_n z3 z2, z4] at ih1
        exact ih1 h0
      · simp only [gL_0 z2, i00, if_true, if_pos z1, if_neg (show ¬ t p = 123 by rw [z1]; decide), z4, nI_m1, ite_self] at e1
        rw [z4, e1]
        rw [pT_n z3 z2] at ih1
        exact ih1 h0
      · simp only [gL_0 z3, i00, if_true, if_neg z1, if_neg z2, ite_self] at e1
        rw [e1]
        rw [pT_n z4 z3, z5] at ih1
        exact ih1 h0
      · simp only [if_neg (nI_ne0 z6 (show dp t p < 2 ^ 31 by omega)), if_neg z1, if_neg z2] at e1
        rw [e1]
        rw [pT_c z4 z3, z5] at ih1
        exact ih1 h0
theorem twi_s {k n : Nat} {t : Nat → Int32} {M : MS} (hk : k < 3) (h : WT t n) (hT : TX M k n t) : ((pT t n).2.1 = 0 ∨ (pT t n).2.1 = 1) ∧ f_GM_twice M (nI k) = some ((pT t n).2.1, M) := by
  have h60 := h.1
  have e : f_GM_twice M (nI k) = q_GM_twice_10 (fz 2000) M (nI k) (pT t 0).1 (nI (dp t 0)) (nI (60 * k + 0)) fun (S98 : MS) (y98_2 : Int32) (y98_3 : Int32) (y98_4 : Int32) => some ((0 : Int32), S98) := by
    unfold f_GM_twice
    simp only [lt, n60]
    rfl
  rw [e]
  rcases twi_q hk h hT (K := fun (S98 : MS) (y98_2 : Int32) (y98_3 : Int32) (y98_4 : Int32) => some ((0 : Int32), S98)) (fz 2000) 0 (Nat.zero_le _) (by rw [fz_eq]; omega) rfl with ⟨a, d, b⟩ | ⟨a, b⟩
  · rw [a, b]; exact ⟨Or.inl rfl, rfl⟩
  · rw [a, b]; exact ⟨Or.inr rfl, rfl⟩
