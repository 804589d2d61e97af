theorem n26 {y : Nat} (h : y < 26) : ¬ (26 : Int32) ≤ nI y := nI_ge (b := 26) h (by omega)
theorem y26 : (26 : Int32) ≤ nI 26 := by decide +kernel
theorem n3 {y : Nat} (h : y < 3) : ¬ (3 : Int32) ≤ nI y := nI_ge (b := 3) h (by omega)
theorem y3 : (3 : Int32) ≤ nI 3 := by decide +kernel
theorem stR_c {S : CS} {c i c' : Nat} {v : Int32} (h : c' ≠ c) : (stR S c i v).2 c' = S.2 c' := stR_o h
/-- what link leaves alone -/
def CF (S S' : CS) : Prop := S'.1 = S.1 ∧ ∀ c, c ≠ 4 → c ≠ 5 → c ≠ 6 → S'.2 c = S.2 c
theorem CF.rf {S : CS} : CF S S := ⟨rfl, fun _ _ _ _ => rfl⟩
theorem CF.tr {S S1 S2 : CS} (h : CF S S1) (g : CF S1 S2) : CF S S2 := ⟨g.1.trans h.1, fun c a b d => (g.2 c a b d).trans (h.2 c a b d)⟩
theorem CF.st {S S1 : CS} {c i : Nat} {v : Int32} (h : CF S S1) (hc : c = 4 ∨ c = 5 ∨ c = 6) : CF S (stR S1 c i v) := ⟨h.1, fun c' a b d => by rw [stR_o (by omega)]; exact h.2 c' a b d⟩
theorem fgt_q : ∀ (f y : Nat) (S : CS), y ≤ 26 → 26 < y + f → CF S (q_PR_forget_7 f S (nI y)) ∧ (q_PR_forget_7 f S (nI y)).2 4 = S.2 4 ∧ ∀ L, L < 26 → (q_PR_forget_7 f S (nI y)).2 5 L = (if y ≤ L then 0 else S.2 5 L) ∧ (q_PR_forget_7 f S (nI y)).2 6 L = (if y ≤ L then 0 else S.2 6 L) := by
  intro f
  induction f with
  | zero => intro y S hy hf; omega
  | succ f ih =>
    intro y S hy hf
    rw [q_PR_forget_7]
    by_cases q : y = 26
    · subst q
      rw [if_pos y26]
      exact ⟨CF.rf, rfl, fun L hL => by rw [if_neg (by omega), if_neg (by omega)]; exact ⟨rfl, rfl⟩⟩
    · rw [if_neg (n26 (by omega))]
      dsimp only
      rw [nI_clamp (by omega), nI_1]
      obtain ⟨b1, b2, b3⟩ := ih (y + 1) (stR (stR S 5 y 0) 6 y 0) (by omega) (by omega)
      refine ⟨((CF.rf.st (by omega)).st (by omega)).tr b1, by rw [b2, stR_o (by decide), stR_o (by decide)], fun L hL => ?_⟩
      obtain ⟨b4, b5⟩ := b3 L hL
      rw [b4, b5, stR_at, stR_at, stR_at, stR_at]
      by_cases q1 : y + 1 ≤ L
      · rw [if_pos q1, if_pos (by omega), if_pos q1, if_pos (by omega)]; exact ⟨rfl, rfl⟩
      · rw [if_neg q1, if_neg q1]
        by_cases q2 : L = y
        · subst q2
          simp
        · rw [if_neg (by decide), if_pos rfl, if_neg q2, if_neg (show ¬ y ≤ L by omega), if_pos rfl, if_neg q2, if_neg (show ¬ (6 : Nat) = 5 by decide), if_neg (show ¬ y ≤ L by omega)]
          exact ⟨rfl, rfl⟩
theorem tak_q {k : Nat} : ∀ (f y : Nat) (S : CS), y ≤ 26 → 26 < y + f → CF S (q_PR_takeOver_2 f S k (nI y)) ∧ (q_PR_takeOver_2 f S k (nI y)).2 4 = S.2 4 ∧ ∀ L, L < 26 → (q_PR_takeOver_2 f S k (nI y)).2 5 L = (if y ≤ L ∧ bt (S.1 k 0 7) L = true then nI (k + 1) else S.2 5 L) ∧ (q_PR_takeOver_2 f S k (nI y)).2 6 L = (if y ≤ L ∧ bt (S.1 k 0 7) L = true then S.1 k 6 L else S.2 6 L) := by
  intro f
  induction f with
  | zero => intro y S hy hf; omega
  | succ f ih =>
    intro y S hy hf
    rw [q_PR_takeOver_2]
    by_cases q : y = 26
    · subst q
      rw [if_pos y26]
      exact ⟨CF.rf, rfl, fun L hL => by rw [if_neg (by omega), if_neg (by omega)]; exact ⟨rfl, rfl⟩⟩
    · rw [if_neg (n26 (by omega))]
      dsimp only
      unfold f_MT_defined f_MT_callsOf
      rw [bt_has _ (show y < 26 by omega), nI_clamp (by omega), nI_1, isLn (show y < 26 by omega)]
      cases v : bt (S.1 k 0 7) y with
      | false =>
        rw [if_neg (show ¬ (false = true) by decide), if_pos rfl]
        obtain ⟨b1, b2, b3⟩ := ih (y + 1) S (by omega) (by omega)
        refine ⟨b1, b2, fun L hL => ?_⟩
        obtain ⟨b4, b5⟩ := b3 L hL
        rw [b4, b5]
        by_cases q2 : L = y
        · subst q2
          rw [v, if_neg (by omega), if_neg (fun q => by cases q.2), if_neg (by omega), if_neg (fun q => by cases q.2)]; exact ⟨rfl, rfl⟩
        · by_cases q3 : y + 1 ≤ L ∧ bt (S.1 k 0 7) L = true
          · rw [if_pos q3, if_pos q3, if_pos ⟨by omega, q3.2⟩, if_pos ⟨by omega, q3.2⟩]; exact ⟨rfl, rfl⟩
          · have q4 : ¬ (y ≤ L ∧ bt (S.1 k 0 7) L = true) := fun z => q3 ⟨by omega, z.2⟩
            rw [if_neg q3, if_neg q3, if_neg q4, if_neg q4]; exact ⟨rfl, rfl⟩
      | true =>
        rw [if_pos rfl, if_neg (by decide), if_neg (by decide)]
        obtain ⟨b1, b2, b3⟩ := ih (y + 1) (stR (stR S 5 y (nI (k + 1))) 6 y ((stR S 5 y (nI (k + 1))).1 k 6 y)) (by omega) (by omega)
        refine ⟨((CF.rf.st (by omega)).st (by omega)).tr b1, by rw [b2, stR_o (by decide), stR_o (by decide)], fun L hL => ?_⟩
        obtain ⟨b4, b5⟩ := b3 L hL
        rw [b4, b5, stR_at, stR_at, stR_at, stR_at]
        show (if y + 1 ≤ L ∧ bt (S.1 k 0 7) L = true then _ else _) = _ ∧ (if y + 1 ≤ L ∧ bt (S.1 k 0 7) L = true then S.1 k 6 L else _) = _
        by_cases q2 : L = y
        · subst q2
          rw [if_neg (by omega), if_neg (by omega)]
          simp [v, stR_1]
        · by_cases q3 : y + 1 ≤ L ∧ bt (S.1 k 0 7) L = true
          · rw [if_pos q3, if_pos q3, if_pos ⟨by omega, q3.2⟩, if_pos ⟨by omega, q3.2⟩]; exact ⟨rfl, rfl⟩
          · have q4 : ¬ (y ≤ L ∧ bt (S.1 k 0 7) L = true) := fun z => q3 ⟨by omega, z.2⟩
            rw [if_neg q3, if_neg q3, if_neg q4, if_neg q4]
            simp [q2]
theorem gini_q {K : MS → Int32 → Option (Int32 × MS)} : ∀ (f y : Nat) (M : MS), y ≤ 26 → 26 < y + f → ∃ M' , q_GM_gather_2 f M (nI y) K = K M' (nI 26) ∧ GFr M M' ∧ ∀ L, L < 26 → M' 10 L = (if y ≤ L then -1 else M 10 L) ∧ M' 11 L = (if y ≤ L then 0 else M 11 L) := by
  intro f
  induction f with
  | zero => intro y M hy hf; omega
  | succ f ih =>
    intro y M hy hf
    rw [q_GM_gather_2]
    by_cases q : y = 26
    · subst q
      rw [if_pos y26]
      exact ⟨M, rfl, fun _ _ _ => rfl, fun L hL => by rw [if_neg (by omega), if_neg (by omega)]; exact ⟨rfl, rfl⟩⟩
    · rw [if_neg (n26 (by omega))]
      simp only [↓ltE, ix_nI (show y < 26 by omega) (by omega), gdE, nI_clamp (show y < 2 ^ 31 by omega), nI_1]
      obtain ⟨M', b1, b2, b3⟩ := ih (y + 1) (stM (stM M 10 y (-1)) 11 y 0) (by omega) (by omega)
      refine ⟨M', b1, fun c c1 c2 => by rw [b2 c c1 c2, stM_o c2, stM_o c1], fun L hL => ?_⟩
      obtain ⟨b4, b5⟩ := b3 L hL
      rw [b4, b5, stM_at, stM_at, stM_at, stM_at]
      by_cases q1 : y + 1 ≤ L
      · rw [if_pos q1, if_pos (by omega), if_pos q1, if_pos (by omega)]; exact ⟨rfl, rfl⟩
      · rw [if_neg q1, if_neg q1]
        by_cases q2 : L = y
        · subst q2
          simp
        · have q3 : ¬ y ≤ L := by omega
          simp [q2, q3]
theorem ClO_fm {t : Nat → Int32} {j k n : Nat} {M S : MS} (h : WT t n) (hF : FM k M S) (hj : j ≠ k) (H : ClO t j n M) : ClO t j n S := by
  have h60 := h.1
  intro q hq q1 q2 a l q3
  have ha := top_lt h (show q ≤ n by omega) (a := a) (by rw [q3]; exact List.mem_cons_self)
  obtain ⟨b1, b2, b3, b4⟩ := H q hq q1 q2 a l q3
  exact ⟨by rw [hF.2 5 _ (by omega) (by omega) (by omega)]; exact b1, by rw [hF.2 5 _ (by omega) (by omega) (by omega)]; exact b2, by rw [hF.2 7 _ (by omega) (by omega) (by omega)]; exact b3, fun z => by rw [hF.2 6 _ (by omega) (by omega) (by omega)]; exact b4 z⟩
theorem StO_fm {t : Nat → Int32} {j k n : Nat} {M S : MS} (h : WT t n) (hF : FM k M S) (hj : j ≠ k) (H : StO t j n M) : StO t j n S := by
  have h60 := h.1
  intro q hq q1 q2 q3
  obtain ⟨b1, b2⟩ := H q hq q1 q2 q3
  exact ⟨by rw [hF.2 8 _ (by omega) (by omega) (by omega)]; exact b1, by rw [hF.2 9 _ (by omega) (by omega) (by omega)]; exact b2⟩
theorem ClO_eq {t : Nat → Int32} {j n : Nat} {M S : MS} (h5 : S 5 = M 5) (h6 : S 6 = M 6) (h7 : S 7 = M 7) (H : ClO t j n M) : ClO t j n S := by
  unfold ClO; rw [h5, h6, h7]; exact H
theorem StO_eq {t : Nat → Int32} {j n : Nat} {M S : MS} (h8 : S 8 = M 8) (h9 : S 9 = M 9) (H : StO t j n M) : StO t j n S := by
  unfold StO; rw [h8, h9]; exact H
/-- what link does not touch of the reference -/
def LM (M M' : MS) : Prop := ∀ c, c < 4 ∨ 11 < c → M' c = M c
theorem LM.rf {M : MS} : LM M M := fun _ _ => rfl
theorem LM.tr {M M1 M2 : MS} (h : LM M M1) (g : LM M1 M2) : LM M M2 := fun c hc => (g c hc).trans (h c hc)
/-- the first k modules joined -/
def LG (tt : Nat → Nat → Int32) (nn : Nat → Nat) (k : Nat) (S : CS) (M : MS) : Prop :=
  (∀ j, 26 ≤ j → bt (S.2 4 2) j = false) ∧ (∀ L, L < 26 →
    (bt (S.2 4 2) L = false → S.2 5 L = 0 ∧ S.2 6 L = 0 ∧ M 10 L = -1 ∧ M 11 L = 0) ∧
    (bt (S.2 4 2) L = true → ∃ j, j < k ∧ bt (pT (tt j) (nn j)).1 L = true ∧ S.2 5 L = nI (j + 1) ∧ M 10 L = nI (60 * j + 1) + (pT (tt j) (nn j)).2.2.1 L ∧ M 11 L = (pT (tt j) (nn j)).2.2.2 L ∧ S.2 6 L = (pT (tt j) (nn j)).2.2.2 L)) ∧
  (∀ j, j < k → ClO (tt j) j (nn j) M ∧ StO (tt j) j (nn j) M)
/-- compiled modules -/
def CO (S : CS) (M : MS) (tt : Nat → Nat → Int32) (nn : Nat → Nat) : Prop := ∀ k, k < 3 → WT (tt k) (nn k) ∧ (pT (tt k) (nn k)).2.1 = 0 ∧ TOK (S.1 k) (tt k) (nn k) ∧ TX M k (nn k) (tt k)
theorem body_pos {t : Nat → Int32} {n j L : Nat} (h : WT t n) (hj : j < 3) (hb : bt (pT t n).1 L = true) : ∃ b, b < n ∧ (rr t b).2.1 = 0 ∧ isL (t b) ∧ lno (t b) = L ∧ (pT t n).2.2.1 L = nI b ∧ nI (60 * j + 1) + (pT t n).2.2.1 L = nI (60 * j + 1 + b) ∧ ¬ nI (60 * j + 1) + (pT t n).2.2.1 L < 0 := by
  obtain ⟨b, b1, b2, b3, b4, b5⟩ := beg h n (Nat.le_refl _) hb
  have := h.1
  refine ⟨b, b1, b3, b4, b5, b2, by rw [b2, nI_add], ?_⟩
  rw [b2, nI_add]; exact nI_pos (by omega)
theorem join_q {tt : Nat → Nat → Int32} {nn : Nat → Nat} : ∀ (f f2 k : Nat) (S : CS) (M : MS), k ≤ 3 → 3 < k + f → 3 < k + f2 → CO S M tt nn → LG tt nn k S M →
    ((q_PR_join_6 f S (nI k)).1 = -3 ∧ CF S (q_PR_join_6 f S (nI k)).2 ∧ ∃ M', q_GM_gather_30 f2 M (nI k) (fun S _ => some (1, S)) = some (0, M') ∧ LM M M') ∨
    (∃ f' S3 M3, q_PR_join_6 f S (nI k) = q_PR_join_6 (f' + 1) S3 (nI 3) ∧ q_GM_gather_30 f2 M (nI k) (fun S _ => some (1, S)) = some (1, M3) ∧ CF S S3 ∧ LM M M3 ∧ LG tt nn 3 S3 M3) := by
  intro f
  induction f with
  | zero => intro f2 k S M hk hf; omega
  | succ f ih =>
    intro f2 k S M hk hf hf2 hC hL
    cases f2 with
    | zero => omega
    | succ f2 =>
      by_cases q : k = 3
      · subst q
        refine Or.inr ⟨f, S, M, rfl, ?_, CF.rf, LM.rf, hL⟩
        rw [q_GM_gather_30, if_pos y3]
      · have hk3 : k < 3 := by omega
        obtain ⟨hW, hW2, hW3, hW4⟩ := hC k hk3
        obtain ⟨v, M1, c1, c2, c3, c4, c5⟩ := map_s hk3 hW hW4
        have h60 := hW.1
        have eG : q_GM_gather_30 (f2 + 1) M (nI k) (fun S _ => some (1, S)) = q_GM_gather_52 (fz 2000) M1 v (nI k) 0 (nI (dp (tt k) 0)) (nI (60 * k + 0)) fun (S173 : MS) (_ : Int32) (_ : Int32) (_ : Int32) => q_GM_gather_30 f2 S173 (nI (k + 1)) (fun S _ => some (1, S)) := by
          rw [q_GM_gather_30, if_neg (n3 hk3), c1]
          simp only [bd2, ↓ltE, n60, nI_1]
          rfl
        have r10 : M1 10 = M 10 := c2.1 10 (by omega)
        have r11 : M1 11 = M 11 := c2.1 11 (by omega)
        have hneg : ∀ L, L < 26 → (M 10 L < 0 ↔ bt (S.2 4 2) L = false) := fun L hL2 => by
          cases u : bt (S.2 4 2) L with
          | false => rw [((hL.2.1 L hL2).1 u).2.2.1]; exact ⟨fun _ => rfl, fun _ => by decide⟩
          | true =>
            obtain ⟨j, j1, j2, j3, j4, j5⟩ := (hL.2.1 L hL2).2 u
            obtain ⟨b, _, _, _, _, _, _, b8⟩ := body_pos (hC j (by omega)).1 (show j < 3 by omega) j2
            rw [j4]
            exact ⟨fun z => absurd z b8, fun z => by cases z⟩
        have hB : ∀ L, L < 26 → M1 10 L < 0 → M1 11 L = 0 := fun L hL2 q1 => by
          rw [r10] at q1
          rw [r11]
          exact ((hL.2.1 L hL2).1 ((hneg L hL2).mp q1)).2.2.2
        have h7 : S.1 k 0 7 = (pT (tt k) (nn k)).1 := hW3.2.2.1
        have eJ : q_PR_join_6 (f + 1) S (nI k) = if S.2 4 2 &&& (pT (tt k) (nn k)).1 = 0 then q_PR_join_6 f (f_PR_takeOver (stR S 4 2 (S.2 4 2 ||| (pT (tt k) (nn k)).1)) k) (nI (k + 1)) else (-3, S) := by
          rw [q_PR_join_6, if_neg (n3 hk3)]
          dsimp only
          unfold f_MT_defined
          rw [nI_clamp (by omega), h7, nI_1]
        have hzero : (S.2 4 2 &&& (pT (tt k) (nn k)).1 = 0) ↔ ∀ L, L < 26 → bt (pT (tt k) (nn k)).1 L = true → M1 10 L < 0 := by
          rw [bt_z, r10]
          constructor
          · intro z L hL2 q1
            have := z L (by omega)
            rw [bt_and, q1, Bool.and_true] at this
            exact (hneg L hL2).mpr this
          · intro z L _
            rw [bt_and]
            by_cases q1 : L < 26
            · cases u : bt (pT (tt k) (nn k)).1 L with
              | false => rw [Bool.and_false]
              | true => rw [(hneg L q1).mp (z L q1 u)]; rfl
            · rw [hL.1 L (by omega)]; rfl
        rw [eJ, eG]
        rcases gat_q (x37 := v) (K := fun (S173 : MS) (_ : Int32) (_ : Int32) (_ : Int32) => q_GM_gather_30 f2 S173 (nI (k + 1)) (fun S _ => some (1, S))) hk3 hW (c2.tx hW4) hW2 hB (fz 2000) 0 M1 0 (Nat.zero_le _) (by rw [fz_eq]; omega) (fun _ _ _ => rfl) (fun L hL2 => ⟨fun z => by rw [show (pT (tt k) 0).1 = 0 from rfl, bt_0] at z; exact absurd z (by decide), fun _ => ⟨rfl, rfl⟩⟩) (fun z => absurd rfl z) with ⟨⟨L, l1, l2, l3⟩, M2, d1, d2⟩ | ⟨d0, M2, y, d, d1, d2, d3⟩
        · have : ¬ S.2 4 2 &&& (pT (tt k) (nn k)).1 = 0 := fun z => l3 (hzero.mp z L l1 l2)
          rw [if_neg this]
          exact Or.inl ⟨rfl, CF.rf, M2, d2, fun c hc => by rw [d1 c (by omega) (by omega), c2.1 c (by omega)]⟩
        · rw [if_pos (hzero.mpr d0), d3]
          have lm1 : LM M M2 := fun c hc => by rw [d1 c (by omega) (by omega), c2.1 c (by omega)]
          obtain ⟨e1, e2, e3⟩ := tak_q (k := k) (fz 27) 0 (stR S 4 2 (S.2 4 2 ||| (pT (tt k) (nn k)).1)) (by omega) (by rw [fz_eq]; omega)
          have e1 : CF S (f_PR_takeOver (stR S 4 2 (S.2 4 2 ||| (pT (tt k) (nn k)).1)) k) := (CF.rf.st (Or.inl rfl)).tr e1
          have e2 : (f_PR_takeOver (stR S 4 2 (S.2 4 2 ||| (pT (tt k) (nn k)).1)) k).2 4 2 = S.2 4 2 ||| (pT (tt k) (nn k)).1 := by
            show (q_PR_takeOver_2 (fz 27) _ k 0).2 4 2 = _
            rw [← nI_0, e2, stR_at, if_pos rfl, if_pos rfl]
          have e3 : ∀ L, L < 26 → (f_PR_takeOver (stR S 4 2 (S.2 4 2 ||| (pT (tt k) (nn k)).1)) k).2 5 L = (if bt (pT (tt k) (nn k)).1 L = true then nI (k + 1) else S.2 5 L) ∧ (f_PR_takeOver (stR S 4 2 (S.2 4 2 ||| (pT (tt k) (nn k)).1)) k).2 6 L = (if bt (pT (tt k) (nn k)).1 L = true then S.1 k 6 L else S.2 6 L) := fun L hL2 => by
            have := e3 L hL2
            rw [stR_1, h7, stR_c (by decide), stR_c (by decide)] at this
            have z : (0 ≤ L ∧ bt (pT (tt k) (nn k)).1 L = true) ↔ bt (pT (tt k) (nn k)).1 L = true := ⟨fun z => z.2, fun z => ⟨Nat.zero_le _, z⟩⟩
            simp only [z] at this
            exact this
          generalize f_PR_takeOver (stR S 4 2 (S.2 4 2 ||| (pT (tt k) (nn k)).1)) k = S2 at e1 e2 e3 ⊢
          have hC2 : CO S2 M2 tt nn := fun j hj => by
            obtain ⟨x1, x2, x3, x4⟩ := hC j hj
            exact ⟨x1, x2, by rw [e1.1]; exact x3, ⟨by rw [lm1 2 (by omega)]; exact x4.1, fun i hi => by rw [lm1 1 (by omega)]; exact x4.2 i hi⟩⟩
          have hL2 : LG tt nn (k + 1) S2 M2 := by
            refine ⟨fun j hj => ?_, fun L hL2 => ?_, fun j hj => ?_⟩
            · rw [e2, bt_or, hL.1 j hj, pT_hi hW hj _ (Nat.le_refl _)]; rfl
            · obtain ⟨e4, e5⟩ := e3 L hL2
              obtain ⟨g1, g2⟩ := d2 L hL2
              rw [e2, bt_or, e4, e5]
              cases u : bt (pT (tt k) (nn k)).1 L with
              | true =>
                rw [if_pos rfl, if_pos rfl, Bool.or_true]
                obtain ⟨g3, g4, g5⟩ := g1 u
                have g6 := hW3.2.2.2.2 L hL2 u
                exact ⟨fun z => absurd z (by decide), fun _ => ⟨k, by omega, u, rfl, g4, g5, g6.2⟩⟩
              | false =>
                rw [if_neg (by decide), if_neg (by decide), Bool.or_false]
                obtain ⟨g3, g4⟩ := g2 u
                rw [g3, g4, r10, r11]
                refine ⟨(hL.2.1 L hL2).1, fun z => ?_⟩
                obtain ⟨j, j1, j2⟩ := (hL.2.1 L hL2).2 z
                exact ⟨j, by omega, j2⟩
            · by_cases q1 : j = k
              · subst q1
                exact ⟨ClO_eq (d1 5 (by decide) (by decide)) (d1 6 (by decide) (by decide)) (d1 7 (by decide) (by decide)) c3, StO_eq (d1 8 (by decide) (by decide)) (d1 9 (by decide) (by decide)) c4⟩
              · obtain ⟨z1, z2⟩ := hL.2.2 j (by omega)
                have hWj := (hC j (by omega)).1
                exact ⟨ClO_eq (d1 5 (by decide) (by decide)) (d1 6 (by decide) (by decide)) (d1 7 (by decide) (by decide)) (ClO_fm hWj c2 q1 z1), StO_eq (d1 8 (by decide) (by decide)) (d1 9 (by decide) (by decide)) (StO_fm hWj c2 q1 z2)⟩
          rcases ih f2 (k + 1) S2 M2 (by omega) (by omega) (by omega) hC2 hL2 with ⟨x1, x2, M', x3, x4⟩ | ⟨f', S3, M3, x1, x2, x3, x4, x5⟩
          · exact Or.inl ⟨x1, e1.tr x2, M', x3, lm1.tr x4⟩
          · exact Or.inr ⟨f', S3, M3, x1, x2, e1.tr x3, lm1.tr x4, x5⟩
