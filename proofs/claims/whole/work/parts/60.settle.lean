/-- linked: what class and reference know of the three texts -/
def LKd (S : CS) (M : MS) (nn : Nat → Nat) : Prop :=
  (∀ k, k < 3 → S.1 k 0 6 = nI (nn k) ∧ WT (S.1 k 1) (nn k) ∧ (pT (S.1 k 1) (nn k)).2.1 = 0 ∧ TOK (S.1 k) (S.1 k 1) (nn k) ∧ TX M k (nn k) (S.1 k 1) ∧ ClO (S.1 k 1) k (nn k) M ∧ StO (S.1 k 1) k (nn k) M) ∧
  bt (S.2 4 2) 12 = true ∧
  (∀ L, L < 26 → bt (S.2 4 2) L = true → ∃ j, j < 3 ∧ bt (pT (S.1 j 1) (nn j)).1 L = true ∧ S.2 5 L = nI (j + 1) ∧ M 10 L = nI (60 * j + 1) + (pT (S.1 j 1) (nn j)).2.2.1 L ∧ (∀ L2, L2 < 26 → bt ((pT (S.1 j 1) (nn j)).2.2.2 L) L2 = true → bt (S.2 6 L) L2 = true ∧ bt (S.2 4 2) L2 = true)) ∧
  (∀ L, L < 26 → bt (S.2 6 L) L = false) ∧ Tr (S.2 6)
def CK (S S' : CS) : Prop := S'.1 = S.1 ∧ S'.2 4 = S.2 4 ∧ S'.2 5 = S.2 5 ∧ S'.2 6 = S.2 6
def MKp (M M' : MS) : Prop := ∀ c, 0 < c → c < 11 → c ≠ 3 → c ≠ 4 → M' c = M c
theorem CK.rf {S : CS} : CK S S := ⟨rfl, rfl, rfl, rfl⟩
theorem CK.st {S : CS} {c i : Nat} {v : Int32} (h4 : 4 ≠ c) (h5 : 5 ≠ c) (h6 : 6 ≠ c) : CK S (stR S c i v) := ⟨rfl, stR_o h4, stR_o h5, stR_o h6⟩
theorem CK.tr {S S1 S2 : CS} (h : CK S S1) (g : CK S1 S2) : CK S S2 := ⟨g.1.trans h.1, g.2.1.trans h.2.1, g.2.2.1.trans h.2.2.1, g.2.2.2.trans h.2.2.2⟩
theorem MKp.tr {M M1 M2 : MS} (h : MKp M M1) (g : MKp M1 M2) : MKp M M2 := fun c a b d e => (g c a b d e).trans (h c a b d e)
theorem LKd_k {S S' : CS} {M M' : MS} {nn : Nat → Nat} (h : LKd S M nn) (hS : CK S S') (hM : MKp M M') : LKd S' M' nn := by
  obtain ⟨h1, h2, h3, h4, h5⟩ := h
  unfold LKd
  rw [hS.1, hS.2.1, hS.2.2.1, hS.2.2.2, hM 10 (by omega) (by omega) (by omega) (by omega)]
  refine ⟨fun k hk => ?_, h2, h3, h4, h5⟩
  obtain ⟨a1, a2, a3, a4, a5, a6, a7⟩ := h1 k hk
  exact ⟨a1, a2, a3, a4, ⟨by rw [hM 2 (by omega) (by omega) (by omega) (by omega)]; exact a5.1, fun i hi => by rw [hM 1 (by omega) (by omega) (by omega) (by omega)]; exact a5.2 i hi⟩, ClO_eq (hM 5 (by omega) (by omega) (by omega) (by omega)) (hM 6 (by omega) (by omega) (by omega) (by omega)) (hM 7 (by omega) (by omega) (by omega) (by omega)) a6, StO_eq (hM 8 (by omega) (by omega) (by omega) (by omega)) (hM 9 (by omega) (by omega) (by omega) (by omega)) a7⟩
/-- a place where a statement or a block's end may stand -/
def PF (t : Nat → Int32) (n p L : Nat) : Prop := p < n ∧ ((rr t p).2.1 = 2 ∨ (rr t p).2.1 = 3) ∧ t p ≠ 58 ∧ (rr t p).2.2.2.2.2.1 = nI L
def FrOK (S : CS) (nn : Nat → Nat) (L k p i : Nat) : Prop := L < 26 ∧ k < 3 ∧ bt (S.2 4 2) L = true ∧ S.2 5 L = nI (k + 1) ∧ cntTo (S.2 6 L) 26 + i ≤ 25 ∧ PF (S.1 k 1) (nn k) p L
abbrev FLs : Type := List (Nat × Nat × Nat)
def LF (S : CS) (M : MS) (nn : Nat → Nat) : FLs → Prop
  | [] => True
  | (L, k, p) :: l => FrOK S nn L k p l.length ∧ S.2 10 l.length = nI L ∧ S.2 11 l.length = nI p ∧ M 14 l.length = nI (60 * k + p) ∧ LF S M nn l
def Top (S : CS) (M : MS) (nn : Nat → Nat) (L k p : Nat) (l : FLs) : Prop := FrOK S nn L k p l.length ∧ S.2 10 l.length = nI L ∧ S.2 11 l.length = nI p ∧ M 0 21 = nI (60 * k + p) ∧ S.2 9 3 = nI (l.length + 1) ∧ M 0 23 = nI (l.length + 1) ∧ M 0 20 = 1 ∧ LF S M nn l
theorem FrOK_k {S S' : CS} {nn : Nat → Nat} {L k p i : Nat} (h : FrOK S nn L k p i) (hS : CK S S') : FrOK S' nn L k p i := by
  unfold FrOK; rw [hS.1, hS.2.1, hS.2.2.1, hS.2.2.2]; exact h
theorem LF_k {S S' : CS} {M M' : MS} {nn : Nat → Nat} (hS : CK S S') : ∀ {l : FLs}, LF S M nn l → (∀ i, i < l.length → S'.2 10 i = S.2 10 i ∧ S'.2 11 i = S.2 11 i ∧ M' 14 i = M 14 i) → LF S' M' nn l
  | [], _, _ => trivial
  | (L, k, p) :: l, h, e => by
    obtain ⟨h1, h2, h3, h4, h5⟩ := h
    have el : ((L, k, p) :: l).length = l.length + 1 := rfl
    obtain ⟨e1, e2, e3⟩ := e l.length (by omega)
    exact ⟨FrOK_k h1 hS, by rw [e1]; exact h2, by rw [e2]; exact h3, by rw [e3]; exact h4, LF_k hS h5 (fun i hi => e i (by omega))⟩
noncomputable def nst (T : Nat → Nat → Nat → Int32) (k p : Nat) : Nat := (rr (T k 1) p).1.length
noncomputable def nsum (T : Nat → Nat → Nat → Int32) : FLs → Nat
  | [] => 0
  | (_, k, p) :: l => nst T k p + nsum T l
theorem nst_b {S : CS} {M : MS} {nn : Nat → Nat} {L k p i : Nat} (h : LKd S M nn) (hF : FrOK S nn L k p i) : 1 ≤ nst S.1 k p ∧ nst S.1 k p ≤ 6 := by
  obtain ⟨_, hk, _, _, _, hp, he, _⟩ := hF
  have hW := (h.1 k hk).2.1
  have := hW.ws (Nat.le_of_lt hp)
  unfold nst
  obtain ⟨stk, e, hh, x, g, pr, st, w⟩ := rs7 (rr (S.1 k 1) p)
  rw [w] at this he ⊢
  have he : e = 2 ∨ e = 3 := he
  exact ⟨List.length_pos_iff.mpr (this.2.2.2.2.2.2.2.2.2.1 (by omega)), this.2.2.2.2.2.2.2.2.2.2.2.2⟩
theorem nsum_b {S : CS} {M : MS} {nn : Nat → Nat} (h : LKd S M nn) : ∀ {l : FLs}, LF S M nn l → nsum S.1 l ≤ 6 * l.length
  | [], _ => Nat.le_refl _
  | (L, k, p) :: l, hl => by
    have := nsum_b h hl.2.2.2.2
    have := (nst_b h hl.1).2
    have el : ((L, k, p) :: l).length = l.length + 1 := rfl
    show nst S.1 k p + nsum S.1 l ≤ _
    omega
/-- where a text goes on behind a block's end -/
theorem leaves {t : Nat → Int32} {n p L : Nat} (h : WT t n) (hF : PF t n p L) (hc : t p = 125) : ∃ a s, (rr t p).1 = a :: s ∧ a.1 < n ∧ a.2 < n ∧ 
    ((kd t a.1 = 3 ∧ isL (t a.1) ∧ s = []) ∨
     (kd t a.1 = 6 ∧ t a.1 = 64 ∧ PF t n a.1 L ∧ (rr t a.1).1 = s) ∨
     (kd t a.1 = 4 ∧ t a.1 = 63 ∧ p + 1 < n ∧ t (p + 1) ≠ 58 ∧ PF t n (p + 1) L ∧ (rr t (p + 1)).1 = s) ∨
     (kd t a.1 = 5 ∧ t a.1 = 58 ∧ p + 1 < n ∧ t (p + 1) ≠ 58 ∧ PF t n (p + 1) L ∧ (rr t (p + 1)).1 = s) ∨
     (kd t a.1 = 4 ∧ t a.1 = 63 ∧ p + 1 < n ∧ t (p + 1) = 58 ∧ ∃ q, q < n ∧ t q = 125 ∧ ((rr t q).2.1 = 2 ∨ (rr t q).2.1 = 3) ∧ (rr t q).1 = (p + 1, p + 2) :: s ∧ PF t n (q + 1) L ∧ (rr t (q + 1)).1 = s)) := by
  obtain ⟨hp, he, h58, hpr⟩ := hF
  obtain ⟨stk, e, hh, x, g, pr, st, w0⟩ := rs7 (rr t p)
  have hW := h.ws (Nat.le_of_lt hp)
  have hX := WX_run (h.run (Nat.le_of_lt hp))
  have hprb := pr_bot h (Nat.le_of_lt hp)
  rw [w0] at hW hX he hpr hprb
  have he : e = 2 ∨ e = 3 := he
  have hpr : pr = nI L := hpr
  have hprb : stk ≠ [] → pr = t (bot stk 0) - 65 := hprb
  obtain ⟨a1, a2, a3, a4, a5, a6, a7, a8, a9, a10, a11, a12, a13⟩ := hW
  have hs := h.step hp
  rw [w0] at hs
  rcases inv_23 he hs with ⟨_, z, _⟩ | ⟨a, s, z, rfl, w⟩ | ⟨_, z, _⟩
  · exact absurd z h58
  · have hE := a6 (by omega)
    have haa := a1 a List.mem_cons_self
    have hTR := hX.1
    refine ⟨a, s, by rw [w0], by omega, by omega, ?_⟩
    by_cases k3 : kd t a.1 = 3
    · exact Or.inl ⟨k3, kd_L.mpr k3, hE.1.2.2.1.mp k3⟩
    · have hs0 : s ≠ [] := fun z => k3 (hE.1.2.2.1.mpr z)
      have nL : ¬ isL (t a.1) := fun z => k3 (kd_L.mp z)
      have hprs : t (bot s 0) - 65 = nI L := by rw [← hpr, hprb (List.cons_ne_nil _ _), bot_cons a 0 hs0]
      have hk4 : 4 ≤ kd t a.1 := by have := hE.1.1; omega
      have prs : ∀ {y : Nat}, y ≤ n → (rr t y).1 = s → (rr t y).2.2.2.2.2.1 = nI L := fun {y} hy z => by
        rw [pr_bot h hy (by rw [z]; exact hs0), z]; exact hprs
      by_cases k6 : kd t a.1 = 6
      · have := hTR.1.2 hk4
        have h64 := kd_64 k6
        exact Or.inr (Or.inl ⟨k6, h64, ⟨by omega, this.2, by rw [h64]; decide, prs (by omega) this.1⟩, this.1⟩)
      · rw [if_neg nL] at w
        have hlt : p + 1 < n := h.lt (by omega) (by
          rw [w]
          show (if t a.1 = 63 then 3 else 2) ≠ 0
          split <;> omega)
        have hs1 : (rr t (p + 1)).1 = s := by rw [w]
        by_cases k4 : kd t a.1 = 4
        · have h63 := kd_63 k4
          rw [if_pos h63] at w
          by_cases c58 : t (p + 1) = 58
          · refine Or.inr (Or.inr (Or.inr (Or.inr ⟨k4, h63, hlt, c58, ?_⟩)))
            have hst1 := h.step hlt
            rw [w] at hst1
            have w2 : rr t (p + 2) = (s, 1, p + 1, x, g, pr, st) := by
              rcases inv_23 (Or.inr rfl) hst1 with ⟨_, _, w2⟩ | ⟨_, _, z, _⟩ | ⟨z, _⟩
              · exact w2
              · rw [c58] at z; exact absurd z (by decide)
              · exact absurd c58 z
            have hlt2 : p + 2 < n := h.lt (by omega) (by rw [w2]; show (1 : Nat) ≠ 0; decide)
            have hst2 := h.step hlt2
            rw [w2] at hst2
            obtain ⟨_, _, w3⟩ := inv_1 hst2
            have hk5 : 3 ≤ kd t (p + 1, p + 2).1 := by rw [show (p + 1, p + 2).1 = p + 1 from rfl, kd_5 c58]; omega
            obtain ⟨q, q1, q2, q3, q4, q5, q6⟩ := closes h hk5 (n - (p + 3)) (p + 3) [] (by omega) (Nat.le_refl _) (by show (rr t (p + 2 + 1)).1 = _; rw [w3]; rfl)
            refine ⟨q, q2, q3, q5, q4, ?_, q6⟩
            have hstq := h.step q2
            obtain ⟨stk', e', hh', x', g', pr', st', w4⟩ := rs7 (rr t q)
            rw [w4] at hstq q5 q4
            have q5 : e' = 2 ∨ e' = 3 := q5
            have q4 : stk' = _ := q4
            subst q4
            have w5 : (rr t (q + 1)).2.1 = 2 := by
              rcases inv_23 q5 hstq with ⟨_, z, _⟩ | ⟨b, l', _, z, w5⟩ | ⟨_, z, _⟩
              · rw [q3] at z; exact absurd z (by decide)
              · cases z
                rw [w5]
                show (if isL (t (p + 1)) then 0 else if t (p + 1) = 63 then 3 else 2) = 2
                rw [c58]; decide
              · exact absurd q3 z
            have hq1 : q + 1 < n := h.lt (by omega) (by rw [w5]; decide)
            refine ⟨hq1, Or.inl w5, fun z => ?_, prs (by omega) q6⟩
            obtain ⟨stk', e', hh', x', g', pr', st', w6⟩ := rs7 (rr t (q + 1))
            rw [w6] at w5
            have w5 : e' = 2 := w5
            have hst6 := h.step hq1
            rw [w6] at hst6
            rcases inv_23 (Or.inl w5) hst6 with ⟨z, _⟩ | ⟨_, _, z2, _⟩ | ⟨z2, _⟩
            · omega
            · rw [z] at z2; exact absurd z2 (by decide)
            · exact absurd z z2
          · exact Or.inr (Or.inr (Or.inl ⟨k4, h63, hlt, c58, ⟨hlt, Or.inr (by rw [w]), c58, prs (by omega) hs1⟩, hs1⟩))
        · have k5 : kd t a.1 = 5 := by have := hE.1.2.1; omega
          have h58' := kd_58 k5
          rw [if_neg (by rw [h58']; decide)] at w
          have c58 : t (p + 1) ≠ 58 := fun z => by
            have hst1 := h.step hlt
            rw [w] at hst1
            rcases inv_23 (Or.inl rfl) hst1 with ⟨z2, _⟩ | ⟨_, _, z2, _⟩ | ⟨z2, _⟩
            · omega
            · rw [z] at z2; exact absurd z2 (by decide)
            · exact absurd z z2
          exact Or.inr (Or.inr (Or.inr (Or.inl ⟨k5, h58', hlt, c58, ⟨hlt, Or.inl (by rw [w]), c58, prs (by omega) hs1⟩, hs1⟩)))
  · exact absurd hc z
