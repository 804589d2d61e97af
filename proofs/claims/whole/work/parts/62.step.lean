theorem nI_2 (a : Nat) : nI a + 2 = nI (a + 2) := nI_add a 2
theorem cnt_sub {a b : Int32} {L : Nat} (h : ∀ j, j < 26 → bt a j = true → bt b j = true) (hb : bt b L = true) (ha : bt a L = false) : ∀ y, y ≤ 26 → cntTo a y + (if L < y then 1 else 0) ≤ cntTo b y
  | 0, _ => by rw [if_neg (by omega)]; exact Nat.le_refl _
  | y + 1, hy => by
    have ih := cnt_sub h hb ha y (by omega)
    rw [cntTo, cntTo]
    by_cases q : L = y
    · subst q
      rw [if_neg (by omega)] at ih
      rw [if_pos (by omega), hb, ha]
      simp
      omega
    · have e : (if L < y + 1 then 1 else 0) = (if L < y then 1 else 0) := by
        by_cases w : L < y
        · rw [if_pos w, if_pos (by omega)]
        · rw [if_neg w, if_neg (by omega)]
      rw [e]
      cases u : bt a y with
      | false => simp; omega
      | true => rw [h y (by omega) u]; simp; omega
theorem e2n {t : Nat → Int32} {n p : Nat} (h : WT t n) (hp : p < n) (he : (rr t p).2.1 = 2) : t p ≠ 58 := fun z => by
  obtain ⟨stk, e, hh, x, g, pr, st, w⟩ := rs7 (rr t p)
  have hs := h.step hp
  rw [w] at he hs
  have he : e = 2 := he
  rcases inv_23 (Or.inl he) hs with ⟨z2, _⟩ | ⟨_, _, z2, _⟩ | ⟨z2, _⟩
  · omega
  · rw [z] at z2; exact absurd z2 (by decide)
  · exact absurd z z2
theorem PF2 {t : Nat → Int32} {n p L : Nat} (h : WT t n) (hp : p ≤ n) (he : (rr t p).2.1 = 2) (hpr : (rr t p).2.2.2.2.2.1 = nI L) : PF t n p L := by
  have hlt : p < n := h.lt hp (by omega)
  exact ⟨hlt, Or.inl he, e2n h hlt he, hpr⟩
theorem ent {t : Nat → Int32} {n L : Nat} (h : WT t n) (hb : bt (pT t n).1 L = true) : ∃ b, (pT t n).2.2.1 L = nI b ∧ PF t n (b + 2) L := by
  obtain ⟨b, b1, b2, b3, b4, b5⟩ := beg h n (Nat.le_refl _) hb
  refine ⟨b, b2, ?_⟩
  obtain ⟨stk, e, hh, x, g, pr, st, w⟩ := rs7 (rr t b)
  have hs := h.step b1
  rw [w] at b3 hs
  have b3 : e = 0 := b3
  subst b3
  obtain ⟨_, w1⟩ := inv_0 hs
  have h1 : b + 1 < n := h.lt (by omega) (by rw [w1]; show (1 : Nat) ≠ 0; decide)
  have hs1 := h.step h1
  rw [w1] at hs1
  obtain ⟨_, _, w2⟩ := inv_1 hs1
  refine PF2 h (by omega) (by show (rr t (b + 1 + 1)).2.1 = 2; rw [w2]) ?_
  show (rr t (b + 1 + 1)).2.2.2.2.2.1 = nI L
  rw [w2]
  show t b - 65 = nI L
  rw [(lno_s b4).1, b5]
theorem skip {t : Nat → Int32} {n p j L : Nat} (h : WT t n) (hc : t p = 63 ∨ t p = 64) (hj : j < n) {stk : List (Nat × Nat)} {hh : Nat} {x : Int32} {g : Nat} {pr : Int32} {st : Nat} (hs : stk ≠ []) (hr : rr t (j + 1) = ((p, j) :: stk, 2, hh, x, g, pr, st)) (hpr : pr = nI L) : ∃ q, q < n ∧ t q = 125 ∧ ((rr t q).2.1 = 2 ∨ (rr t q).2.1 = 3) ∧ (rr t q).1 = (p, j) :: stk ∧ q + 1 < n ∧ ((t (q + 1) ≠ 58 ∧ PF t n (q + 1) L) ∨ (t (q + 1) = 58 ∧ t p = 63 ∧ q + 3 < n ∧ PF t n (q + 3) L)) := by
  have hj1 : j + 1 < n := h.lt (by omega) (by rw [hr]; show (2 : Nat) ≠ 0; decide)
  have hk : 3 ≤ kd t (p, j).1 := by
    show 3 ≤ kd t p
    rcases hc with z | z
    · rw [kd_4 z]; omega
    · rw [kd_6 z]; omega
  have nL : ¬ isL (t p) := by rcases hc with z | z <;> (rw [z]; decide)
  obtain ⟨q, q1, q2, q3, q4, q5, q6⟩ := closes h hk (n - (j + 1)) (j + 1) [] (by omega) (Nat.le_refl _) (by rw [hr]; rfl)
  have hb : t (bot stk 0) - 65 = nI L := by
    have := pr_bot h (p := j + 1) (by omega) (by rw [hr]; exact List.cons_ne_nil _ _)
    rw [hr] at this
    have this : pr = t (bot ((p, j) :: stk) 0) - 65 := this
    rw [bot_cons _ 0 hs] at this
    rw [← this, hpr]
  have prs : ∀ {y : Nat}, y ≤ n → (rr t y).1 = stk → (rr t y).2.2.2.2.2.1 = nI L := fun {y} hy z => by
    rw [pr_bot h hy (by rw [z]; exact hs), z]; exact hb
  obtain ⟨stk', e', hh', x', g', pr', st', w4⟩ := rs7 (rr t q)
  have hstq := h.step q2
  rw [w4] at hstq
  have q4' := q4
  have q5' := q5
  rw [w4] at q4' q5'
  have q5' : e' = 2 ∨ e' = 3 := q5'
  have q4' : stk' = _ := q4'
  subst q4'
  have w5 : rr t (q + 1) = (stk, (if t p = 63 then 3 else 2), hh', x', g', pr', st') := by
    rcases inv_23 q5' hstq with ⟨_, z, _⟩ | ⟨b, l', _, z, w5⟩ | ⟨_, z, _⟩
    · rw [q3] at z; exact absurd z (by decide)
    · cases z
      rw [w5]
      show (stk, (if isL (t p) then 0 else if t p = 63 then 3 else 2), _) = _
      rw [if_neg nL]
    · exact absurd q3 z
  have hq1 : q + 1 < n := h.lt (by omega) (by
    rw [w5]
    show (if t p = 63 then 3 else 2) ≠ 0
    split <;> omega)
  refine ⟨q, q2, q3, q5, q4, hq1, ?_⟩
  have hpq := prs (y := q + 1) (by omega) q6
  by_cases c58 : t (q + 1) = 58
  · by_cases c63 : t p = 63
    · rw [if_pos c63] at w5
      have hst1 := h.step hq1
      rw [w5] at hst1
      have w2 : rr t (q + 2) = (stk, 1, q + 1, x', g', pr', st') := by
        rcases inv_23 (Or.inr rfl) hst1 with ⟨_, _, w2⟩ | ⟨_, _, z, _⟩ | ⟨z, _⟩
        · exact w2
        · rw [c58] at z; exact absurd z (by decide)
        · exact absurd c58 z
      have hlt2 : q + 2 < n := h.lt (by omega) (by rw [w2]; show (1 : Nat) ≠ 0; decide)
      have hst2 := h.step hlt2
      rw [w2] at hst2
      obtain ⟨_, _, w3⟩ := inv_1 hst2
      have hP : PF t n (q + 3) L := PF2 h (by omega) (by show (rr t (q + 2 + 1)).2.1 = 2; rw [w3]) (by
        show (rr t (q + 2 + 1)).2.2.2.2.2.1 = nI L
        rw [w3]
        rw [w5] at hpq
        exact hpq)
      exact Or.inr ⟨c58, c63, hP.1, hP⟩
    · rw [if_neg c63] at w5
      exact absurd c58 (e2n h hq1 (by rw [w5]))
  · refine Or.inl ⟨c58, hq1, ?_, c58, hpq⟩
    rw [w5]
    show (if t p = 63 then 3 else 2) = 2 ∨ (if t p = 63 then 3 else 2) = 3
    split <;> omega
theorem Top_k {S S' : CS} {M M' : MS} {nn : Nat → Nat} {L k p : Nat} {l : FLs} (h : Top S M nn L k p l) (hS : CK S S') (h10 : S'.2 10 = S.2 10) (h11 : S'.2 11 = S.2 11) (h9 : S'.2 9 3 = S.2 9 3) (m14 : M' 14 = M 14) (m21 : M' 0 21 = M 0 21) (m23 : M' 0 23 = M 0 23) (m20 : M' 0 20 = M 0 20) : Top S' M' nn L k p l := by
  obtain ⟨a1, h2, h3, h4, h5, h6, h7, h8⟩ := h
  exact ⟨FrOK_k a1 hS, by rw [h10]; exact h2, by rw [h11]; exact h3, by rw [m21]; exact h4, by rw [h9]; exact h5, by rw [m23]; exact h6, by rw [m20]; exact h7, LF_k hS h8 fun i _ => ⟨by rw [h10], by rw [h11], by rw [m14]⟩⟩
/-- what a step keeps -/
def SPo (S : CS) (M : MS) (S' : CS) (M' : MS) : Prop := S'.1 = S.1 ∧ (∀ c, c < 7 → S'.2 c = S.2 c) ∧ (∀ c, 0 < c → c < 12 → M' c = M c) ∧ M' 0 3 = M 0 3 ∧ (∀ j, j < 8 → M' 12 j = S'.2 8 j) ∧ (∀ j, j < 24 → M' 13 j = S'.2 12 j) ∧ M' 0 19 = S'.2 9 4 ∧ ∃ c c', c < 2 ^ 30 ∧ S.2 9 4 = nI c ∧ S'.2 9 4 = nI c' ∧ c' ≤ c + 1
theorem SPo.ck {S S' : CS} {M M' : MS} (h : SPo S M S' M') : CK S S' := ⟨h.1, h.2.1 4 (by omega), h.2.1 5 (by omega), h.2.1 6 (by omega)⟩
theorem SPo.mk {S S' : CS} {M M' : MS} (h : SPo S M S' M') : MKp M M' := fun c a b _ _ => h.2.2.1 c a (by omega)
theorem SPo.then {S S1 S2 : CS} {M M1 M2 : MS} (h : SPo S M S1 M1) (hS : SF S1 S2) (hM : MFs M1 M2) : SPo S M S2 M2 := by
  obtain ⟨a1, a2, a3, a4, a5, a6, a7, c, c', a11, a8, a9, a10⟩ := h
  refine ⟨hS.1.trans a1, fun c hc => (hS.2.1 c (by omega) (by omega)).trans (a2 c hc), fun c h1 h2 => (hM.1 c (by omega)).trans (a3 c h1 h2), (hM.2 3 (by decide) (by decide) (by decide)).trans a4, fun j hj => by rw [hM.1 12 (by decide), hS.2.1 8 (by decide) (by decide)]; exact a5 j hj, fun j hj => by rw [hM.1 13 (by decide), hS.2.1 12 (by decide) (by decide)]; exact a6 j hj, by rw [hM.2 19 (by decide) (by decide) (by decide), hS.2.2 4 (by decide)]; exact a7, c, c', a11, a8, by rw [hS.2.2 4 (by decide)]; exact a9, a10⟩
