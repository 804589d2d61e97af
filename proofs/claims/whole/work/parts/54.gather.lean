theorem pT_mono {t : Nat → Int32} {p L : Nat} : ∀ d, bt (pT t p).1 L = true → bt (pT t (p + d)).1 L = true
  | 0, h => h
  | d + 1, h => by
    have ih := pT_mono d h
    show bt (pS t (p + d) (rr t (p + d)) (pT t (p + d))).1 L = true
    unfold pS
    split
    · show bt ((pT t (p + d)).1 ||| _) L = true
      rw [bt_or, ih]; rfl
    · split
      · exact ih
      · exact ih
theorem pT_hi {t : Nat → Int32} {n j : Nat} (h : WT t n) (hj : 26 ≤ j) : ∀ p, p ≤ n → bt (pT t p).1 j = false
  | 0, _ => bt_0 j
  | p + 1, hp => by
    have ih := pT_hi h hj p (by omega)
    by_cases q : (rr t p).2.1 = 0
    · rw [pT_0 q]
      rcases shape h (show p < n by omega) with ⟨z1, z2, _⟩ | ⟨_, _, z3, _⟩ | ⟨_, _, z3, _⟩ | ⟨_, _, _, z4, _⟩ | ⟨_, _, _, z4, _⟩
      · show bt ((pT t p).1 ||| _) j = false
        have := (lno_s z2).2.1
        rw [bt_or, ih, bt_1 this, decide_eq_false (by omega)]; rfl
      · exact absurd q z3
      · exact absurd q z3
      · exact absurd q z4
      · omega
    · rw [(pT_e q).1]; exact ih
/-- the procedure that a sign stands in -/
theorem prL {t : Nat → Int32} {n : Nat} (h : WT t n) : ∀ p, p ≤ n → (rr t p).2.1 ≠ 0 → ∃ L, L < 26 ∧ (rr t p).2.2.2.2.2.1 = nI L ∧ bt (pT t p).1 L = true
  | 0, _, hq => absurd rfl hq
  | p + 1, hp, hq => by
    obtain ⟨stk, e, hh, x, g, pr, st, w0⟩ := rs7 (rr t p)
    have ih := prL h p (by omega)
    rcases kinds h (show p < n by omega) w0 with ⟨z0, _, z, w⟩ | ⟨_, z0, _, _, _, _, _, w⟩ | ⟨_, z0, w⟩ | ⟨a, l, _, z0, _, w⟩ | ⟨e', x', z0, _, _, _, _, _, _, w⟩ | ⟨s', e', g', z0, _, _, _, _, _, _, _, w⟩
    · obtain ⟨l1, l2, l3⟩ := lno_s z
      refine ⟨lno (t p), l2, by rw [w]; exact l1, ?_⟩
      rw [pT_0 (by rw [w0]; exact z0)]
      show bt ((pT t p).1 ||| _) _ = true
      rw [bt_or, bt_1 l2, decide_eq_true rfl, Bool.or_true]
    all_goals
      have ne : (rr t p).2.1 ≠ 0 := by rw [w0]; show e ≠ 0; omega
      obtain ⟨L, b1, b2, b3⟩ := ih ne
      refine ⟨L, b1, ?_, by rw [(pT_e ne).1]; exact b3⟩
      rw [w0] at b2
      rw [w]; exact b2
/-- where a procedure begins -/
theorem beg {t : Nat → Int32} {n : Nat} (h : WT t n) {L : Nat} : ∀ p, p ≤ n → bt (pT t p).1 L = true → ∃ b, b < p ∧ (pT t p).2.2.1 L = nI b ∧ (rr t b).2.1 = 0 ∧ isL (t b) ∧ lno (t b) = L
  | 0, _, hq => by rw [show (pT t 0).1 = 0 from rfl, bt_0] at hq; cases hq
  | p + 1, hp, hq => by
    have ih := beg h (L := L) p (by omega)
    by_cases q : (rr t p).2.1 = 0
    · rw [pT_0 q] at hq ⊢
      have hq : bt ((pT t p).1 ||| _) L = true := hq
      rcases shape h (show p < n by omega) with ⟨z1, z2, _⟩ | ⟨_, _, z3, _⟩ | ⟨_, _, z3, _⟩ | ⟨_, _, _, z4, _⟩ | ⟨_, _, _, z4, _⟩
      · by_cases v : lno (t p) = L
        · refine ⟨p, by omega, ?_, z1, z2, v⟩
          show upd _ _ _ _ = _
          rw [v, upd_s]
        · rw [bt_or, bt_1 (lno_s z2).2.1, decide_eq_false v, Bool.or_false] at hq
          obtain ⟨b, b1, b2, b3⟩ := ih hq
          refine ⟨b, by omega, ?_, b3⟩
          show upd _ _ _ _ = _
          rw [upd_o (Ne.symm v)]; exact b2
      · exact absurd q z3
      · exact absurd q z3
      · exact absurd q z4
      · omega
    · have e2 : (pT t (p + 1)).2.2.1 = (pT t p).2.2.1 := by
        show (pS t p (rr t p) (pT t p)).2.2.1 = _
        unfold pS
        rw [if_neg q]
        split <;> rfl
      rw [(pT_e q).1] at hq
      obtain ⟨b, b1, b2, b3⟩ := ih hq
      exact ⟨b, by omega, by rw [e2]; exact b2, b3⟩
/-- a call stands in its procedure's row -/
theorem callOk {t : Nat → Int32} {n : Nat} (h : WT t n) (h2 : (pT t n).2.1 = 0) {q L : Nat} (he : (rr t q).2.1 = 2 ∨ (rr t q).2.1 = 3) (hc : isL (t q)) (hL : (rr t q).2.2.2.2.2.1 = nI L) (hL26 : L < 26) : ∀ p, q < p → p ≤ n → bt (pT t p).1 L = true ∧ bt ((pT t p).2.2.2 L) (lno (t q)) = true
  | 0, hq, _ => by omega
  | p + 1, hq, hp => by
    obtain ⟨l1, l2, l3⟩ := lno_s hc
    by_cases v : q = p
    · subst v
      obtain ⟨L', b1, b2, b3⟩ := prL h q (by omega) (by omega)
      have e1 : L' = L := by rw [hL] at b2; exact ((nI_eq (by omega) (by omega)).mp b2).symm
      subst e1
      rw [pT_c he hc]
      refine ⟨b3, ?_⟩
      show bt (upd _ _ _ _) _ = true
      rw [hL, nI_clamp (by omega), upd_s, bt_or, bt_1 l2, decide_eq_true rfl, Bool.or_true]
    · obtain ⟨ih1, ih2⟩ := callOk h h2 he hc hL hL26 p (by omega) (by omega)
      have m1 := pT_mono (p := p) 1 ih1
      refine ⟨m1, ?_⟩
      rcases shape h (show p < n by omega) with ⟨z1, z2, _⟩ | ⟨_, z2, z3, _⟩ | ⟨_, z2, z3, _⟩ | ⟨_, _, z3, z4, _⟩ | ⟨_, _, z3, z4, _⟩
      · rw [pT_0 z1]
        show bt (upd _ _ _ _) _ = true
        by_cases u : L = lno (t p)
        · exfalso
          have := pT_tw (t := t) (p := p + 1) (n - (p + 1)) (by rw [pT_0 z1, ← u]; show (if bt (pT t p).1 L then (1 : Int32) else _) = 1; rw [ih1]; rfl)
          rw [show p + 1 + (n - (p + 1)) = n by omega, h2] at this
          exact absurd this (by decide)
        · rw [upd_o u]; exact ih2
      · rw [pT_n z3 z2]; exact ih2
      · rw [pT_n z3 z2]; exact ih2
      · rw [pT_n z4 z3]; exact ih2
      · rw [pT_c z4 z3]
        show bt (upd _ _ _ _) _ = true
        by_cases u : L = (rr t p).2.2.2.2.2.1.toNatClampNeg
        · rw [← u, upd_s, bt_or, ih2]; rfl
        · rw [upd_o u]; exact ih2
section
variable {t : Nat → Int32} {k n p f : Nat} {S : MS} {x37 y4 : Int32} {K : MS → Int32 → Int32 → Int32 → Option (Int32 × MS)}
theorem ga_0 (hk : k < 3) (h60 : n ≤ 60) (hp : p < n) (hT : TX S k n t) (hL : isL (t p)) : q_GM_gather_52 (f + 1) S x37 (nI k) y4 (nI 0) (nI (60 * k + p)) K = if S 10 (lno (t p)) < 0 then q_GM_gather_52 f (stM S 10 (lno (t p)) (nI (60 * k + (p + 1)))) x37 (nI k) (nI (lno (t p))) (nI 0) (nI (60 * k + (p + 1))) K else some (0, S) := by
  have hle : ¬ nI (60 * k + n) ≤ nI (60 * k + p) := nI_ge (by omega) (by omega)
  obtain ⟨l1, l2, l3⟩ := lno_s hL
  rw [q_GM_gather_52]
  simp only [↓ltE, jnE, n60, ix_nI hk (by omega), gdE, nI_clamp (show k < 2 ^ 31 by omega), hT.1, nI_add, ix_nI (show 60 * k + p < 180 by omega) (by omega), nI_clamp (show 60 * k + p < 2 ^ 31 by omega), hT.2 p hp, if_neg hle, nI_1, Nat.add_assoc, nI_0, i00, if_true, gL_1 hL, i10, if_false, if_neg (nd (P := isL) 123 hL (by decide)), if_neg (nd (P := isL) 125 hL (by decide)), l1, ix_nI l2 (by omega), nI_clamp (show lno (t p) < 2 ^ 31 by omega)]
theorem ga_c {d L : Nat} (hk : k < 3) (h60 : n ≤ 60) (hp : p < n) (hT : TX S k n t) (hL : isL (t p)) (hd : 0 < d) (hd6 : d ≤ 6) (hl : L < 26) : q_GM_gather_52 (f + 1) S x37 (nI k) (nI L) (nI d) (nI (60 * k + p)) K = q_GM_gather_52 f (stM S 11 L (S 11 L ||| ((1 : Int32) <<< (nI (lno (t p)) &&& 31)))) x37 (nI k) (nI L) (nI d) (nI (60 * k + (p + 1))) K := by
  have hle : ¬ nI (60 * k + n) ≤ nI (60 * k + p) := nI_ge (by omega) (by omega)
  obtain ⟨l1, l2, l3⟩ := lno_s hL
  rw [q_GM_gather_52]
  simp only [↓ltE, jnE, n60, ix_nI hk (by omega), gdE, nI_clamp (show k < 2 ^ 31 by omega), hT.1, nI_add, ix_nI (show 60 * k + p < 180 by omega) (by omega), nI_clamp (show 60 * k + p < 2 ^ 31 by omega), hT.2 p hp, if_neg hle, nI_1, Nat.add_assoc, if_neg (nI_ne0 hd (by omega)), gL_1 hL, i10, if_false, if_neg (nd (P := isL) 123 hL (by decide)), if_neg (nd (P := isL) 125 hL (by decide)), l1, ix_nI hl (by omega), nI_clamp (show L < 2 ^ 31 by omega)]
theorem ga_n {d : Nat} (hk : k < 3) (h60 : n ≤ 60) (hp : p < n) (hT : TX S k n t) (hL : ¬ isL (t p)) : q_GM_gather_52 (f + 1) S x37 (nI k) y4 (nI d) (nI (60 * k + p)) K = q_GM_gather_52 f S x37 (nI k) y4 (if t p = 125 then (if t p = 123 then nI d + 1 else nI d) + (-1) else (if t p = 123 then nI d + 1 else nI d)) (nI (60 * k + (p + 1))) K := by
  have hle : ¬ nI (60 * k + n) ≤ nI (60 * k + p) := nI_ge (by omega) (by omega)
  rw [q_GM_gather_52]
  simp only [↓ltE, jnE, n60, ix_nI hk (by omega), gdE, nI_clamp (show k < 2 ^ 31 by omega), hT.1, nI_add, ix_nI (show 60 * k + p < 180 by omega) (by omega), nI_clamp (show 60 * k + p < 2 ^ 31 by omega), hT.2 p hp, if_neg hle, Nat.add_assoc, gL_0 hL, i00, if_true, ite_self, nI_1]
  by_cases q : t p = 123
  · by_cases q2 : t p = 125
    · rw [q] at q2; exact absurd q2 (by decide)
    · simp only [if_pos q, if_neg q2, nI_1]
  · by_cases q2 : t p = 125
    · simp only [if_neg q, if_pos q2, nI_1]
    · simp only [if_neg q, if_neg q2, nI_1]
end
def GFr (M S : MS) : Prop := ∀ c, c ≠ 10 → c ≠ 11 → S c = M c
def GI (t : Nat → Int32) (k p : Nat) (M S : MS) : Prop := ∀ L, L < 26 → (bt (pT t p).1 L = true → M 10 L < 0 ∧ S 10 L = nI (60 * k + 1) + (pT t p).2.2.1 L ∧ S 11 L = (pT t p).2.2.2 L) ∧ (bt (pT t p).1 L = false → S 10 L = M 10 L ∧ S 11 L = M 11 L)
theorem gat_q {t : Nat → Int32} {k n : Nat} {M : MS} {x37 : Int32} (hk : k < 3) (h : WT t n) (hT : TX M k n t) (h2 : (pT t n).2.1 = 0) (hB : ∀ L, L < 26 → M 10 L < 0 → M 11 L = 0) {K : MS → Int32 → Int32 → Int32 → Option (Int32 × MS)} : ∀ (f p : Nat) (S : MS) (y4 : Int32), p ≤ n → n < p + f → GFr M S → GI t k p M S → ((rr t p).2.1 ≠ 0 → y4 = (rr t p).2.2.2.2.2.1) →
    ((∃ L, L < 26 ∧ bt (pT t n).1 L = true ∧ ¬ M 10 L < 0) ∧ ∃ S', GFr M S' ∧ q_GM_gather_52 f S x37 (nI k) y4 (nI (dp t p)) (nI (60 * k + p)) K = some (0, S')) ∨ ((∀ L, L < 26 → bt (pT t n).1 L = true → M 10 L < 0) ∧ ∃ S' y d, GFr M S' ∧ GI t k n M S' ∧ q_GM_gather_52 f S x37 (nI k) y4 (nI (dp t p)) (nI (60 * k + p)) K = K S' y d (nI (60 * k + n))) := by
  intro f
  induction f with
  | zero => intro p _ _ hp hf; omega
  | succ f ih =>
    intro p S y4 hp hf hF hG hy
    have h60 := h.1
    have hTS : TX S k n t := ⟨by rw [hF 2 (by decide) (by decide)]; exact hT.1, fun i hi => by rw [hF 1 (by decide) (by decide)]; exact hT.2 i hi⟩
    by_cases q : n ≤ p
    · have e : p = n := by omega
      subst e
      refine Or.inr ⟨fun L hL hb => ((hG L hL).1 hb).1, S, y4, nI (dp t p), hF, hG, ?_⟩
      rw [q_GM_gather_52]
      simp only [↓ltE, jnE, n60, ix_nI hk (by omega), gdE, nI_clamp (show k < 2 ^ 31 by omega), hTS.1, nI_add]
      rw [if_pos (nI_le (Nat.le_refl _) (by omega))]
    · have hp : p < n := by omega
      have hd6 := dp_le h (Nat.le_of_lt hp)
      have same : (rr t p).2.1 ≠ 0 → (rr t (p + 1)).2.2.2.2.2.1 = (rr t p).2.2.2.2.2.1 := fun ne => by
        obtain ⟨stk, e, hh, x, g, pr, st, w0⟩ := rs7 (rr t p)
        rcases kinds h hp w0 with ⟨z0, _, z, w⟩ | ⟨_, z0, _, _, _, _, _, w⟩ | ⟨_, z0, w⟩ | ⟨a, l, _, z0, _, w⟩ | ⟨e', x', z0, _, _, _, _, _, _, w⟩ | ⟨s', e', g', z0, _, _, _, _, _, _, _, w⟩
        · rw [w0] at ne; exact absurd z0 ne
        all_goals rw [w, w0]
      rcases shape h hp with ⟨z1, z2, z3, z4, z5, z6⟩ | ⟨z1, z2, z3, z4⟩ | ⟨z1, z2, z3, z4⟩ | ⟨z1, z2, z3, z4, z5⟩ | ⟨z1, z2, z3, z4, z5, z6⟩
      · obtain ⟨l1, l2, l3⟩ := lno_s z2
        rw [z5, ga_0 hk h60 hp hTS z2]
        have nb : bt (pT t p).1 (lno (t p)) = false := by
          cases v : bt (pT t p).1 (lno (t p)) with
          | false => rfl
          | true =>
            exfalso
            have := pT_tw (t := t) (p := p + 1) (n - (p + 1)) (by rw [pT_0 z1, v]; rfl)
            rw [show p + 1 + (n - (p + 1)) = n by omega, h2] at this
            exact absurd this (by decide)
        obtain ⟨g1, g2⟩ := (hG _ l2).2 nb
        rw [g1]
        by_cases u : M 10 (lno (t p)) < 0
        · rw [if_pos u]
          rw [← z6]
          refine ih (p + 1) _ _ (by omega) (by omega) (fun c c1 c2 => by rw [stM_o c1]; exact hF c c1 c2) ?_ (fun _ => ?_)
          · intro L hL
            rw [pT_0 z1]
            show (bt ((pT t p).1 ||| _) L = true → _ ∧ _ = _ + upd _ _ _ _ ∧ _ = upd _ _ _ _) ∧ (bt ((pT t p).1 ||| _) L = false → _)
            rw [bt_or, bt_1 l2]
            by_cases v : lno (t p) = L
            · subst v
              rw [decide_eq_true rfl, Bool.or_true]
              refine ⟨fun _ => ⟨u, ?_, ?_⟩, fun q => by cases q⟩
              · rw [stM_s, upd_s, upd_s, nI_add, show 60 * k + 1 + p = 60 * k + (p + 1) by omega]
              · rw [stM_o (by decide), upd_s, g2]; exact hB _ l2 u
            · rw [decide_eq_false v, Bool.or_false, stM_s, upd_o (Ne.symm v), stM_o (by decide), upd_o (Ne.symm v), upd_o (Ne.symm v)]
              exact hG L hL
          · obtain ⟨stk, e, hh, x, g, pr, st, w0⟩ := rs7 (rr t p)
            rcases kinds h hp w0 with ⟨z0, _, z, w⟩ | ⟨_, z0, _, _, _, _, _, w⟩ | ⟨_, z0, w⟩ | ⟨a, l, _, z0, _, w⟩ | ⟨e', x', z0, _, _, _, _, _, _, w⟩ | ⟨s', e', g', z0, _, _, _, _, _, _, _, w⟩
            · rw [w]; exact l1.symm
            all_goals (rw [w0] at z1; have z1 : e = 0 := z1; omega)
        · rw [if_neg u]
          refine Or.inl ⟨⟨lno (t p), l2, ?_, u⟩, S, hF, rfl⟩
          have := pT_mono (t := t) (p := p + 1) (L := lno (t p)) (n - (p + 1)) (by
            rw [pT_0 z1]
            show bt ((pT t p).1 ||| _) _ = true
            rw [bt_or, bt_1 l2, decide_eq_true rfl, Bool.or_true])
          rwa [show p + 1 + (n - (p + 1)) = n by omega] at this
      · have := ih (p + 1) S y4 (by omega) (by omega) hF (by unfold GI; rw [pT_n z3 z2]; exact hG) (fun _ => by rw [same z3]; exact hy z3)
        rw [ga_n hk h60 hp hTS z2, if_neg (by rw [z1]; decide), if_pos z1, nI_1, ← z4]
        exact this
      · have := ih (p + 1) S y4 (by omega) (by omega) hF (by unfold GI; rw [pT_n z3 z2]; exact hG) (fun _ => by rw [same z3]; exact hy z3)
        rw [ga_n hk h60 hp hTS z2, if_pos z1, if_neg (by rw [z1]; decide), z4, nI_m1]
        exact this
      · have := ih (p + 1) S y4 (by omega) (by omega) hF (by unfold GI; rw [pT_n z4 z3]; exact hG) (fun _ => by rw [same z4]; exact hy z4)
        rw [ga_n hk h60 hp hTS z3, if_neg z2, if_neg z1, ← z5]
        exact this
      · have ne : (rr t p).2.1 ≠ 0 := by omega
        obtain ⟨L, b1, b2, b3⟩ := prL h p (Nat.le_of_lt hp) ne
        have e4 := hy ne
        rw [b2] at e4
        subst e4
        rw [ga_c hk h60 hp hTS z3 z6 hd6 b1, ← z5]
        refine ih (p + 1) _ _ (by omega) (by omega) (fun c c1 c2 => by rw [stM_o c2]; exact hF c c1 c2) ?_ (fun _ => by rw [same ne, b2])
        intro L' hL'
        rw [pT_c z4 z3, b2, nI_clamp (by omega)]
        show (bt (pT t p).1 L' = true → _ ∧ _ = _ + (pT t p).2.2.1 L' ∧ _ = upd _ _ _ _) ∧ (bt (pT t p).1 L' = false → _)
        obtain ⟨v1, v2⟩ := hG L' hL'
        rw [stM_o (show 10 ≠ 11 by decide), stM_s]
        by_cases v : L' = L
        · subst v
          rw [upd_s, upd_s]
          refine ⟨fun q => ?_, fun q => by rw [b3] at q; cases q⟩
          obtain ⟨v3, v4, v5⟩ := v1 q
          exact ⟨v3, v4, by rw [v5]⟩
        · rw [upd_o v, upd_o v]
          exact ⟨v1, v2⟩
