theorem x123 {t : Nat → Int32} {n p : Nat} (h : WT t n) (hp : p < n) {stk : List (Nat × Nat)} {e hh : Nat} {x : Int32} {g : Nat} {pr : Int32} {st : Nat} (hr : rr t p = (stk, e, hh, x, g, pr, st)) (he : e = 7 ∨ e = 8) (hc : t p = 123) : x = 123 := by
  have hs := h.step hp
  rw [hr] at hs
  rcases inv_78 he hs with ⟨w1, q, w3, w⟩ | ⟨_, ⟨q, w⟩ | ⟨b, l', _, w1, w2, q, w⟩ | ⟨b, l', _, w1, w2, w3, w4, w5, w⟩ | ⟨b, l', _, w1, w2, w3, w4, w⟩⟩
  · rw [hc] at q; exact absurd q (by decide)
  · rw [hc] at q; exact absurd q (by decide)
  · rw [hc] at q; exact absurd q (by decide)
  · rw [← w3, hc]
  · exact absurd hc w4
/-- what map leaves alone -/
def FM (k : Nat) (M S : MS) : Prop := (∀ c, c < 4 ∨ 9 < c → S c = M c) ∧ (∀ c i, 4 < c → c < 10 → (i < 60 * k ∨ 60 * k + 60 ≤ i) → S c i = M c i)
theorem FM.rf {k : Nat} {M : MS} : FM k M M := ⟨fun _ _ => rfl, fun _ _ _ _ _ => rfl⟩
theorem FM.tr {k : Nat} {M M1 M2 : MS} (h : FM k M M1) (g : FM k M1 M2) : FM k M M2 := ⟨fun c hc => (g.1 c hc).trans (h.1 c hc), fun c i a b d => (g.2 c i a b d).trans (h.2 c i a b d)⟩
theorem FM.st {k : Nat} {M S : MS} {c i : Nat} {v : Int32} (h : FM k M S) (h1 : 4 < c) (h2 : c < 10) (h3 : 60 * k ≤ i) (h4 : i < 60 * k + 60) : FM k M (stM S c i v) := by
  refine ⟨fun c' hc => ?_, fun c' i' a b d => ?_⟩
  · rw [stM_o (by omega)]; exact h.1 c' hc
  · rw [stM_at]
    by_cases q : c' = c
    · rw [if_pos q, if_neg (by omega)]; exact h.2 c' i' a b d
    · rw [if_neg q]; exact h.2 c' i' a b d
theorem FM.s4 {k : Nat} {M S : MS} {i : Nat} {v : Int32} (h : FM k M S) : FM k M (stM S 4 i v) := by
  refine ⟨fun c' hc => ?_, fun c' i' a b d => ?_⟩
  · rw [stM_o (by omega)]; exact h.1 c' hc
  · rw [stM_o (by omega)]; exact h.2 c' i' a b d
theorem FM.tx {k j n : Nat} {M S : MS} {t : Nat → Int32} (h : FM k M S) (hT : TX M j n t) : TX S j n t := ⟨by rw [h.1 2 (by omega)]; exact hT.1, fun i hi => by rw [h.1 1 (by omega)]; exact hT.2 i hi⟩
def ClO (t : Nat → Int32) (k p : Nat) (S : MS) : Prop := ∀ q, q < p → t q = 125 → ((rr t q).2.1 = 2 ∨ (rr t q).2.1 = 3) → ∀ a l, (rr t q).1 = a :: l → S 5 (60 * k + q) = nI (60 * k + a.2) ∧ S 5 (60 * k + a.2) = nI (60 * k + q) ∧ S 7 (60 * k + a.2) = nI (kd t a.1) ∧ (kd t a.1 = 6 → S 6 (60 * k + a.2) = nI (60 * k + a.1))
def StO (t : Nat → Int32) (k p : Nat) (S : MS) : Prop := ∀ q, q < p → ((rr t q).2.1 = 2 ∨ (rr t q).2.1 = 3) → t q ≠ 125 → t q ≠ 58 → S 8 (60 * k + q) = nI ((rr t q).2.2.2.2.2.2 + 1) ∧ S 9 (60 * k + q) = (rr t q).2.2.2.2.2.1 + 65
def OW (f : Nat → Int32) (k : Nat) : List (Nat × Nat) → Prop
  | [] => True
  | a :: l => f l.length = nI (60 * k + a.2) ∧ OW f k l
theorem OW_upd {f : Nat → Int32} {k : Nat} {v : Int32} {n : Nat} : ∀ {l : List (Nat × Nat)}, OW f k l → l.length ≤ n → OW (upd f n v) k l
  | [], _, _ => trivial
  | a :: l, h, hn => by
    have hl : l.length + 1 ≤ n := hn
    refine ⟨?_, OW_upd h.2 (by omega)⟩
    rw [upd_o (by omega)]
    exact h.1
def OpO (t : Nat → Int32) (k : Nat) (S : MS) (l : List (Nat × Nat)) : Prop := ∀ a ∈ l, S 7 (60 * k + a.2) = nI (kd t a.1) ∧ (kd t a.1 = 6 → S 6 (60 * k + a.2) = nI (60 * k + a.1))
def Cur (t : Nat → Int32) (k : Nat) (S : MS) (y6 y5 y7 y8 : Int32) : RS → Prop
  | (stk, e, h, x, _, pr, st) => ((e = 2 ∨ e = 3) → y8 = 1) ∧ (e = 1 ∨ 4 ≤ e → y8 = 0) ∧ (e ≠ 0 → y6 = pr + 65 ∧ y5 = nI st) ∧ (4 ≤ e → y7 = nI (60 * k + h)) ∧ (e = 1 → t h ≠ 58 → y7 = nI (60 * k + h) ∧ S 7 (60 * k + h) = nI (kd t h)) ∧ (4 ≤ e → x = 123 → S 7 (60 * k + h) = nI (kd t h)) ∧ OW (S 4) k (blk t stk) ∧ OpO t k S (blk t stk)
theorem ltE {α β : Type} (e : α) (k : α → Option β) : lt e k = k e := (Eq.refl (k e)).trans (Eq.refl (k e))
theorem jnE {α β : Type} (r : α) (f : α → Option β) : jn r f = f r := (Eq.refl (f r)).trans (Eq.refl (f r))
theorem gdE {β : Type} (o : Option β) : gd true o = o := (Eq.refl o).trans (Eq.refl o)
section
variable {t : Nat → Int32} {k n p f : Nat} {S : MS} {y4 y6 y5 y7 y8 : Int32} {K : MS → Int32 → Int32 → Int32 → Int32 → Int32 → Int32 → Int32 → Option (Int32 × MS)}
theorem mp_0 (hk : k < 3) (h60 : n ≤ 60) (hp : p < n) (hT : TX S k n t) (hL : isL (t p)) : q_GM_map_25 (f + 1) S (nI (60 * k)) (nI k) y4 y6 y5 y7 (nI 0) y8 (nI (60 * k + p)) K = q_GM_map_25 f (stM (stM S 9 (60 * k + p) y6) 7 (60 * k + p) 3) (nI (60 * k)) (nI k) (y4 + 1) (t p) 0 (nI (60 * k + p)) (nI 0) 0 (nI (60 * k + (p + 1))) K := by
  have hle : ¬ nI (60 * k + n) ≤ nI (60 * k + p) := nI_ge (by omega) (by omega)
  rw [q_GM_map_25]
  simp only [↓ltE, jnE, ix_nI hk (by omega), gdE, nI_clamp (show k < 2 ^ 31 by omega), hT.1, nI_add, ix_nI (show 60 * k + p < 180 by omega) (by omega), nI_clamp (show 60 * k + p < 2 ^ 31 by omega), hT.2 p hp, if_neg hle, nI_1, Nat.add_assoc, nI_0, i00, if_true, gL_1 hL, i10, if_false, if_neg (nd (P := isL) 123 hL (by decide)), if_neg (nd (P := isL) 125 hL (by decide)), if_neg (nd (P := isL) 58 hL (by decide)), if_neg (nd (P := isL) 59 hL (by decide))]
theorem mp_1 {d h : Nat} (hk : k < 3) (h60 : n ≤ 60) (hp : p + 1 < n) (hT : TX S k n t) (hc : t (p + 1) = 123) (h8 : y8 = 0) (hd : d < 6) (hz : t p ≠ 58 → y7 = nI (60 * k + h) ∧ h < 60) : q_GM_map_25 (f + 1) S (nI (60 * k)) (nI k) y4 y6 y5 y7 (nI d) y8 (nI (60 * k + (p + 1))) K = q_GM_map_25 f (stM (stM (stM (stM S 9 (60 * k + (p + 1)) y6) 6 (60 * k + (p + 1)) y7) 7 (60 * k + (p + 1)) (if t p = 58 then 5 else S 7 (60 * k + h))) 4 d (nI (60 * k + (p + 1)))) (nI (60 * k)) (nI k) y4 y6 y5 y7 (nI (d + 1)) 1 (nI (60 * k + (p + 1 + 1))) K := by
  have hle : ¬ nI (60 * k + n) ≤ nI (60 * k + (p + 1)) := nI_ge (by omega) (by omega)
  have hL : ¬ isL (t (p + 1)) := by rw [hc]; decide
  have e1 : nI (60 * k + (p + 1)) - 1 = nI (60 * k + p) := nI_pred (60 * k + p)
  have r1 : stM (stM S 9 (60 * k + (p + 1)) y6) 6 (60 * k + (p + 1)) y7 1 = S 1 := by rw [stM_o (by decide), stM_o (by decide)]
  have r7 : stM (stM S 9 (60 * k + (p + 1)) y6) 6 (60 * k + (p + 1)) y7 7 = S 7 := by rw [stM_o (by decide), stM_o (by decide)]
  rw [q_GM_map_25]
  simp only [↓ltE, jnE, ix_nI hk (by omega), gdE, nI_clamp (show k < 2 ^ 31 by omega), hT.1, nI_add, ix_nI (show 60 * k + (p + 1) < 180 by omega) (by omega), nI_clamp (show 60 * k + (p + 1) < 2 ^ 31 by omega), hT.2 (p + 1) hp, if_neg hle, gL_0 hL, i00, if_true, h8, ite_self, if_neg (show ¬ t (p + 1) = 58 by rw [hc]; decide), if_pos hc, if_neg (show ¬ t (p + 1) = 125 by rw [hc]; decide), if_neg (show ¬ t (p + 1) = 59 by rw [hc]; decide), e1, ix_nI (show 60 * k + p < 180 by omega) (by omega), nI_clamp (show 60 * k + p < 2 ^ 31 by omega), r1, r7, hT.2 p (by omega), ix_nI (show d < 8 by omega) (by omega), nI_clamp (show d < 2 ^ 31 by omega), nI_1, Nat.add_assoc]
  by_cases q : t p = 58
  · rw [if_pos q, if_pos q]
  · obtain ⟨z1, z2⟩ := hz q
    rw [if_neg q, if_neg q, z1]
    simp only [ix_nI (show 60 * k + h < 180 by omega) (by omega), nI_clamp (show 60 * k + h < 2 ^ 31 by omega), gdE]
theorem mp_2 {d a : Nat} (hk : k < 3) (h60 : n ≤ 60) (hp : p + 1 < n) (hT : TX S k n t) (hc : t (p + 1) = 58) (h8 : y8 = 1) (hd : 0 < d) (hd6 : d ≤ 6) (ha : a < 60) (h5 : S 5 (60 * k + p) = nI (60 * k + a)) : q_GM_map_25 (f + 1) S (nI (60 * k)) (nI k) y4 y6 y5 y7 (nI d) y8 (nI (60 * k + (p + 1))) K = q_GM_map_25 f (stM S 9 (60 * k + (p + 1)) y6) (nI (60 * k)) (nI k) y4 y6 y5 (S 6 (60 * k + a)) (nI d) 0 (nI (60 * k + (p + 1 + 1))) K := by
  have hle : ¬ nI (60 * k + n) ≤ nI (60 * k + (p + 1)) := nI_ge (by omega) (by omega)
  have e1 : nI (60 * k + (p + 1)) - 1 = nI (60 * k + p) := nI_pred (60 * k + p)
  have r5 : stM S 9 (60 * k + (p + 1)) y6 5 = S 5 := stM_o (by decide)
  have r6 : stM S 9 (60 * k + (p + 1)) y6 6 = S 6 := stM_o (by decide)
  rw [q_GM_map_25]
  simp only [↓ltE, jnE, ix_nI hk (by omega), gdE, nI_clamp (show k < 2 ^ 31 by omega), hT.1, nI_add, ix_nI (show 60 * k + (p + 1) < 180 by omega) (by omega), nI_clamp (show 60 * k + (p + 1) < 2 ^ 31 by omega), hT.2 (p + 1) hp, if_neg hle, if_neg (nI_ne0 hd (by omega)), h8, i10, if_false, if_neg (show ¬ t (p + 1) = 125 by rw [hc]; decide), if_pos hc, if_neg (show ¬ t (p + 1) = 123 by rw [hc]; decide), if_neg (show ¬ t (p + 1) = 59 by rw [hc]; decide), e1, ix_nI (show 60 * k + p < 180 by omega) (by omega), nI_clamp (show 60 * k + p < 2 ^ 31 by omega), r5, r6, h5, ix_nI (show 60 * k + a < 180 by omega) (by omega), nI_clamp (show 60 * k + a < 2 ^ 31 by omega), nI_1, Nat.add_assoc]
theorem mp_3 {d a : Nat} (hk : k < 3) (h60 : n ≤ 60) (hp : p < n) (hT : TX S k n t) (hc : t p = 125) (h8 : y8 = 1) (hd6 : d < 6) (ha : a < 60) (h4 : S 4 d = nI (60 * k + a)) : q_GM_map_25 (f + 1) S (nI (60 * k)) (nI k) y4 y6 y5 y7 (nI (d + 1)) y8 (nI (60 * k + p)) K = q_GM_map_25 f (stM (stM (stM S 9 (60 * k + p) y6) 5 (60 * k + p) (nI (60 * k + a))) 5 (60 * k + a) (nI (60 * k + p))) (nI (60 * k)) (nI k) y4 y6 y5 y7 (nI d) 1 (nI (60 * k + (p + 1))) K := by
  have hle : ¬ nI (60 * k + n) ≤ nI (60 * k + p) := nI_ge (by omega) (by omega)
  have r4 : stM S 9 (60 * k + p) y6 4 = S 4 := stM_o (by decide)
  have r5 : ∀ v, stM (stM S 9 (60 * k + p) y6) 5 (60 * k + p) v 4 = S 4 := fun v => by rw [stM_o (by decide), stM_o (by decide)]
  rw [q_GM_map_25]
  simp only [↓ltE, jnE, ix_nI hk (by omega), gdE, nI_clamp (show k < 2 ^ 31 by omega), hT.1, nI_add, ix_nI (show 60 * k + p < 180 by omega) (by omega), nI_clamp (show 60 * k + p < 2 ^ 31 by omega), hT.2 p hp, if_neg hle, if_neg (nI_ne0 (show 0 < d + 1 by omega) (by omega)), h8, i10, if_false, if_pos hc, if_neg (show ¬ t p = 58 by rw [hc]; decide), if_neg (show ¬ t p = 123 by rw [hc]; decide), if_neg (show ¬ t p = 59 by rw [hc]; decide), nI_m1, ix_nI (show d < 8 by omega) (by omega), nI_clamp (show d < 2 ^ 31 by omega), r4, r5, h4, ix_nI (show 60 * k + a < 180 by omega) (by omega), nI_clamp (show 60 * k + a < 2 ^ 31 by omega), nI_1, Nat.add_assoc]
theorem mp_4 {d : Nat} (hk : k < 3) (h60 : n ≤ 60) (hp : p < n) (hT : TX S k n t) (h8 : y8 = 1) (hd : 0 < d) (hd6 : d ≤ 6) (c1 : t p ≠ 58) (c2 : t p ≠ 125) (c3 : t p ≠ 123) (c4 : t p ≠ 59) : q_GM_map_25 (f + 1) S (nI (60 * k)) (nI k) y4 y6 y5 y7 (nI d) y8 (nI (60 * k + p)) K = q_GM_map_25 f (stM (stM (stM (stM S 9 (60 * k + p) y6) 8 (60 * k + p) (y5 + 1)) 9 (60 * k + p) y6) 7 (60 * k + p) (if t p = 63 then 4 else if t p = 64 then 6 else 0)) (nI (60 * k)) (nI k) y4 y6 (y5 + 1) (nI (60 * k + p)) (nI d) 0 (nI (60 * k + (p + 1))) K := by
  have hle : ¬ nI (60 * k + n) ≤ nI (60 * k + p) := nI_ge (by omega) (by omega)
  rw [q_GM_map_25]
  simp only [↓ltE, jnE, ix_nI hk (by omega), gdE, nI_clamp (show k < 2 ^ 31 by omega), hT.1, nI_add, ix_nI (show 60 * k + p < 180 by omega) (by omega), nI_clamp (show 60 * k + p < 2 ^ 31 by omega), hT.2 p hp, if_neg hle, if_neg (nI_ne0 hd (by omega)), h8, i10, if_false, if_neg c1, if_neg c2, if_neg c3, if_neg c4, nI_1, Nat.add_assoc]
  by_cases q : t p = 63
  · simp only [if_pos q]
  · by_cases q2 : t p = 64
    · simp only [if_neg q, if_pos q2]
    · simp only [if_neg q, if_neg q2]
theorem mp_5 {d : Nat} (hk : k < 3) (h60 : n ≤ 60) (hp : p < n) (hT : TX S k n t) (h8 : y8 = 0) (c1 : t p ≠ 58) (c2 : t p ≠ 125) (c3 : t p ≠ 123) (c4 : ¬ isL (t p)) : q_GM_map_25 (f + 1) S (nI (60 * k)) (nI k) y4 y6 y5 y7 (nI d) y8 (nI (60 * k + p)) K = q_GM_map_25 f (stM S 9 (60 * k + p) y6) (nI (60 * k)) (nI k) y4 y6 y5 y7 (nI d) (if t p = 59 then 1 else 0) (nI (60 * k + (p + 1))) K := by
  have hle : ¬ nI (60 * k + n) ≤ nI (60 * k + p) := nI_ge (by omega) (by omega)
  rw [q_GM_map_25]
  simp only [↓ltE, jnE, ix_nI hk (by omega), gdE, nI_clamp (show k < 2 ^ 31 by omega), hT.1, nI_add, ix_nI (show 60 * k + p < 180 by omega) (by omega), nI_clamp (show 60 * k + p < 2 ^ 31 by omega), hT.2 p hp, if_neg hle, h8, i00, if_true, gL_0 c4, ite_self, if_neg c1, if_neg c2, if_neg c3, nI_1, Nat.add_assoc]
  by_cases q : t p = 59
  · simp only [if_pos q]
  · simp only [if_neg q]
end
