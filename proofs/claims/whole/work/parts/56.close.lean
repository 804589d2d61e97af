def orTo (g : Nat → Int32) : Nat → Int32
  | 0 => 0
  | y + 1 => orTo g y ||| g y
theorem orTo_b (g : Nat → Int32) (j : Nat) : ∀ y, bt (orTo g y) j = true ↔ ∃ L, L < y ∧ bt (g L) j = true
  | 0 => by
    rw [orTo, bt_0]
    exact ⟨fun z => absurd z (by decide), fun ⟨L, z, _⟩ => by omega⟩
  | y + 1 => by
    rw [orTo, bt_or, Bool.or_eq_true, orTo_b g j y]
    constructor
    · rintro (⟨L, z1, z2⟩ | z)
      · exact ⟨L, by omega, z2⟩
      · exact ⟨y, by omega, z⟩
    · rintro ⟨L, z1, z2⟩
      by_cases q : L = y
      · subst q; exact Or.inr z2
      · exact Or.inl ⟨L, by omega, z2⟩
theorem orTo_c {g h : Nat → Int32} : ∀ {y : Nat}, (∀ L, L < y → g L = h L) → orTo g y = orTo h y
  | 0, _ => rfl
  | y + 1, e => by rw [orTo, orTo, orTo_c (fun L hL => e L (by omega)), e y (by omega)]
theorem lak_q {S : CS} : ∀ (f y : Nat), y ≤ 26 → 26 < y + f → q_PR_lacksOne_6 f S (nI y) (4096 ||| orTo (S.2 6) y) = if (4096 ||| orTo (S.2 6) 26) &&& (S.2 4 2 ^^^ (-1)) = 0 then 0 else 1 := by
  intro f
  induction f with
  | zero => intro y hy hf; omega
  | succ f ih =>
    intro y hy hf
    rw [q_PR_lacksOne_6]
    by_cases q : y = 26
    · subst q
      rw [if_pos y26]
    · rw [if_neg (n26 (by omega))]
      dsimp only
      rw [nI_clamp (by omega), nI_1, Int32.or_assoc]
      exact ih (y + 1) (by omega) (by omega)
noncomputable def thr (D : Int32) : Nat → Int32
  | 0 => 0
  | y + 1 => if bt D y then thr D y ||| ((1 : Int32) <<< (nI y &&& 31)) else thr D y
theorem thr_b (D : Int32) (j : Nat) : ∀ y, y ≤ 26 → bt (thr D y) j = (decide (j < y) && bt D j)
  | 0, _ => by rw [thr, bt_0, decide_eq_false (by omega)]; rfl
  | y + 1, hy => by
    have ih := thr_b D j y (by omega)
    rw [thr]
    by_cases q : bt D y = true
    · rw [if_pos q, bt_or, ih, bt_1 (by omega)]
      by_cases w : y = j
      · subst w; rw [decide_eq_true rfl, decide_eq_true (Nat.lt_succ_self y), q]; simp
      · rw [decide_eq_false w, Bool.or_false]
        by_cases v : j < y
        · rw [decide_eq_true v, decide_eq_true (by omega)]
        · rw [decide_eq_false v, decide_eq_false (by omega)]
    · rw [if_neg q, ih]
      by_cases w : y = j
      · subst w
        have q : bt D y = false := by cases u : bt D y; rfl; exact absurd u q
        rw [q, Bool.and_false, Bool.and_false]
      · by_cases v : j < y
        · rw [decide_eq_true v, decide_eq_true (by omega)]
        · rw [decide_eq_false v, decide_eq_false (by omega)]
theorem thr_26 {D : Int32} (h : ∀ j, 26 ≤ j → bt D j = false) : thr D 26 = D := bt_ext fun j _ => by
  rw [thr_b D j 26 (Nat.le_refl _)]
  by_cases q : j < 26
  · rw [decide_eq_true q]; rfl
  · rw [h j (by omega), Bool.and_false]
theorem lk_52 {S : MS} {D : Int32} (hneg : ∀ L, L < 26 → (S 10 L < 0 ↔ bt D L = false)) {K : MS → Int32 → Int32 → Int32 → Int32 → Option (Int32 × MS)} : ∀ (f y : Nat), y ≤ 26 → 26 < y + f → q_GM_link_52 f S (thr D y) (f_JI_bitCount (thr D y)) (orTo (S 11) y) (nI y) K = K S (thr D 26) (f_JI_bitCount (thr D 26)) (orTo (S 11) 26) (nI 26) := by
  intro f
  induction f with
  | zero => intro y hy hf; omega
  | succ f ih =>
    intro y hy hf
    rw [q_GM_link_52]
    by_cases q : y = 26
    · subst q
      rw [if_pos y26]
    · rw [if_neg (n26 (by omega))]
      simp only [↓ltE, jnE, ix_nI (show y < 26 by omega) (by omega), gdE, nI_clamp (show y < 2 ^ 31 by omega), nI_1]
      have ih1 := ih (y + 1) (by omega) (by omega)
      rw [orTo, thr] at ih1
      cases u : bt D y with
      | false =>
        rw [if_pos ((hneg y (by omega)).mpr u)]
        rw [u, if_neg (by decide)] at ih1
        exact ih1
      | true =>
        rw [if_neg (fun z => by have := (hneg y (by omega)).mp z; rw [u] at this; cases this)]
        rw [u, if_pos rfl, cnt_add (by omega) (by rw [thr_b D y y (by omega), decide_eq_false (Nat.lt_irrefl y)]; rfl)] at ih1
        exact ih1
/-- the class's closing of the rows, a round -/
noncomputable def wst (b : Nat) (g : Nat → Int32) (a : Nat) : Int32 := if bt (g a) b then g a ||| g b else g a
noncomputable def wsN (g : Nat → Int32) : Nat → Nat → Int32
  | 0 => g
  | r + 1 => wst r (wsN g r)
theorem wst_b {b : Nat} {g : Nat → Int32} {a j : Nat} : bt (wst b g a) j = true ↔ bt (g a) j = true ∨ (bt (g a) b = true ∧ bt (g b) j = true) := by
  unfold wst
  cases u : bt (g a) b with
  | false =>
    rw [if_neg (by decide)]
    exact ⟨Or.inl, fun z => z.elim id (fun w => by cases w.1)⟩
  | true =>
    rw [if_pos rfl, bt_or, Bool.or_eq_true]
    exact ⟨fun z => z.elim Or.inl (fun w => Or.inr ⟨rfl, w⟩), fun z => z.elim Or.inl (fun w => Or.inr w.2)⟩
theorem ws_mono {g : Nat → Int32} {a j : Nat} (h : bt (g a) j = true) : ∀ r, bt (wsN g r a) j = true
  | 0 => h
  | r + 1 => wst_b.mpr (Or.inl (ws_mono h r))
theorem ws_tr {g : Nat → Int32} : ∀ (r c a b : Nat), c < r → bt (wsN g r a) c = true → bt (wsN g r c) b = true → bt (wsN g r a) b = true
  | 0, _, _, _, h, _, _ => by omega
  | r + 1, c, a, b, h, h1, h2 => by
    have I := fun c a b => ws_tr (g := g) r c a b
    have h1 : bt (wst r (wsN g r) a) c = true := h1
    have h2 : bt (wst r (wsN g r) c) b = true := h2
    show bt (wst r (wsN g r) a) b = true
    rw [wst_b] at h1 h2 ⊢
    by_cases q : c = r
    · subst q
      have h1 : bt (wsN g c a) c = true := h1.elim id (fun z => z.1)
      have h2 : bt (wsN g c c) b = true := h2.elim id (fun z => z.2)
      exact Or.inr ⟨h1, h2⟩
    · have hc : c < r := by omega
      rcases h1 with h1 | ⟨h1, h1'⟩
      · rcases h2 with h2 | ⟨h2, h2'⟩
        · exact Or.inl (I c a b hc h1 h2)
        · exact Or.inr ⟨I c a r hc h1 h2, h2'⟩
      · rcases h2 with h2 | ⟨h2, h2'⟩
        · exact Or.inr ⟨h1, I c r b hc h1' h2⟩
        · exact Or.inr ⟨h1, h2'⟩
theorem fc_10 {b : Nat} (hb : b < 26) : ∀ (f y : Nat) (S : CS), y ≤ 26 → 26 < y + f → CF S (q_PR_followChains_10 f S (nI b) (nI y)) ∧ (q_PR_followChains_10 f S (nI b) (nI y)).2 4 = S.2 4 ∧ (q_PR_followChains_10 f S (nI b) (nI y)).2 5 = S.2 5 ∧ ∀ L, L < 26 → (q_PR_followChains_10 f S (nI b) (nI y)).2 6 L = if y ≤ L then wst b (S.2 6) L else S.2 6 L := by
  intro f
  induction f with
  | zero => intro y S hy hf; omega
  | succ f ih =>
    intro y S hy hf
    rw [q_PR_followChains_10]
    by_cases q : y = 26
    · subst q
      rw [if_pos y26]
      exact ⟨CF.rf, rfl, rfl, fun L hL => by rw [if_neg (by omega)]⟩
    · rw [if_neg (n26 (by omega))]
      dsimp only
      rw [nI_clamp (by omega), nI_clamp (by omega), nI_1, bt_has _ hb]
      cases u : bt (S.2 6 y) b with
      | false =>
        rw [if_neg (show ¬ (false = true) by decide), if_pos rfl]
        obtain ⟨b1, b2, b3, b4⟩ := ih (y + 1) S (by omega) (by omega)
        refine ⟨b1, b2, b3, fun L hL => ?_⟩
        rw [b4 L hL]
        by_cases v : L = y
        · subst v
          rw [if_neg (by omega), if_pos (Nat.le_refl _), wst, u, if_neg (by decide)]
        · by_cases w : y + 1 ≤ L
          · rw [if_pos w, if_pos (by omega)]
          · rw [if_neg w, if_neg (by omega)]
      | true =>
        rw [if_pos rfl, if_neg (by decide)]
        obtain ⟨b1, b2, b3, b4⟩ := ih (y + 1) (stR S 6 y (S.2 6 y ||| S.2 6 b)) (by omega) (by omega)
        refine ⟨(CF.rf.st (by omega)).tr b1, by rw [b2, stR_o (by decide)], by rw [b3, stR_o (by decide)], fun L hL => ?_⟩
        rw [b4 L hL]
        have eo : ∀ i, (stR S 6 y (S.2 6 y ||| S.2 6 b)).2 6 i = if i = y then S.2 6 y ||| S.2 6 b else S.2 6 i := fun i => by rw [stR_at, if_pos rfl]
        have eb : (stR S 6 y (S.2 6 y ||| S.2 6 b)).2 6 b = S.2 6 b := by
          rw [eo]
          by_cases v : b = y
          · subst v; rw [if_pos rfl]; exact bt_ext fun j _ => by rw [bt_or, Bool.or_self]
          · rw [if_neg v]
        by_cases v : L = y
        · subst v
          rw [if_neg (by omega), if_pos (Nat.le_refl _), eo, if_pos rfl, wst, u, if_pos rfl]
        · by_cases w : y + 1 ≤ L
          · rw [if_pos w, if_pos (by omega), wst, wst, eb, eo, if_neg v]
          · rw [if_neg w, if_neg (by omega), eo, if_neg v]
theorem wst_c {b : Nat} {g h : Nat → Int32} (hb : b < 26) (e : ∀ L, L < 26 → g L = h L) {L : Nat} (hL : L < 26) : wst b g L = wst b h L := by
  unfold wst; rw [e L hL, e b hb]
theorem fc_2 {g : Nat → Int32} : ∀ (f b : Nat) (S : CS), b ≤ 26 → 26 < b + f → (∀ L, L < 26 → S.2 6 L = wsN g b L) → CF S (q_PR_followChains_2 f S (nI b)) ∧ (q_PR_followChains_2 f S (nI b)).2 4 = S.2 4 ∧ (q_PR_followChains_2 f S (nI b)).2 5 = S.2 5 ∧ ∀ L, L < 26 → (q_PR_followChains_2 f S (nI b)).2 6 L = wsN g 26 L := by
  intro f
  induction f with
  | zero => intro b S hb hf; omega
  | succ f ih =>
    intro b S hb hf hS
    rw [q_PR_followChains_2]
    by_cases q : b = 26
    · subst q
      rw [if_pos y26]
      exact ⟨CF.rf, rfl, rfl, hS⟩
    · rw [if_neg (n26 (by omega))]
      dsimp only
      rw [nI_1]
      obtain ⟨c1, c2, c3, c4⟩ := fc_10 (show b < 26 by omega) (fz 27) 0 S (by omega) (by rw [fz_eq]; omega)
      rw [nI_0] at c1 c2 c3 c4
      obtain ⟨d1, d2, d3, d4⟩ := ih (b + 1) (q_PR_followChains_10 (fz 27) S (nI b) 0) (by omega) (by omega) (fun L hL => by
        rw [c4 L hL, if_pos (Nat.zero_le _)]
        exact wst_c (by omega) hS hL)
      exact ⟨c1.tr d1, by rw [d2, c2], by rw [d3, c3], d4⟩
theorem hc_q {S : CS} : ∀ (f y : Nat), y ≤ 26 → 26 < y + f → (q_PR_hasCircle_2 f S (nI y) = 0 ∧ ∀ L, y ≤ L → L < 26 → bt (S.2 6 L) L = false) ∨ (q_PR_hasCircle_2 f S (nI y) = 1 ∧ ∃ L, y ≤ L ∧ L < 26 ∧ bt (S.2 6 L) L = true) := by
  intro f
  induction f with
  | zero => intro y hy hf; omega
  | succ f ih =>
    intro y hy hf
    rw [q_PR_hasCircle_2]
    by_cases q : y = 26
    · subst q
      rw [if_pos y26]
      exact Or.inl ⟨rfl, fun L h1 h2 => by omega⟩
    · rw [if_neg (n26 (by omega))]
      dsimp only
      rw [nI_clamp (by omega), nI_1, bt_has _ (by omega)]
      cases u : bt (S.2 6 y) y with
      | true =>
        rw [if_pos rfl, if_neg (by decide)]
        exact Or.inr ⟨rfl, y, Nat.le_refl _, by omega, u⟩
      | false =>
        rw [if_neg (show ¬ (false = true) by decide), if_pos rfl]
        rcases ih (y + 1) (by omega) (by omega) with ⟨b1, b2⟩ | ⟨b1, L, b2, b3, b4⟩
        · refine Or.inl ⟨b1, fun L h1 h2 => ?_⟩
          by_cases v : L = y
          · subst v; exact u
          · exact b2 L (by omega) h2
        · exact Or.inr ⟨b1, L, by omega, b3, b4⟩
theorem hr_q {S : MS} {a b c : Int32} {K : MS → Int32 → Option (Int32 × MS)} : ∀ (f y : Nat), y ≤ 26 → 26 < y + f → (q_GM_link_200 f S a b c (nI y) K = K S (nI 26) ∧ ∀ L, y ≤ L → L < 26 → bt (S 11 L) L = false) ∨ (q_GM_link_200 f S a b c (nI y) K = some (-5, S) ∧ ∃ L, y ≤ L ∧ L < 26 ∧ bt (S 11 L) L = true) := by
  intro f
  induction f with
  | zero => intro y hy hf; omega
  | succ f ih =>
    intro y hy hf
    rw [q_GM_link_200]
    by_cases q : y = 26
    · subst q
      rw [if_pos y26]
      exact Or.inl ⟨rfl, fun L h1 h2 => by omega⟩
    · rw [if_neg (n26 (by omega))]
      simp only [↓ltE, ix_nI (show y < 26 by omega) (by omega), gdE, nI_clamp (show y < 2 ^ 31 by omega), nI_1, bt_ref _ (show y < 26 by omega)]
      cases u : bt (S 11 y) y with
      | true =>
        rw [if_pos rfl, if_pos rfl]
        exact Or.inr ⟨rfl, y, Nat.le_refl _, by omega, u⟩
      | false =>
        rw [if_neg (show ¬ (false = true) by decide), if_neg (by decide)]
        rcases ih (y + 1) (by omega) (by omega) with ⟨b1, b2⟩ | ⟨b1, L, b2, b3, b4⟩
        · refine Or.inl ⟨b1, fun L h1 h2 => ?_⟩
          by_cases v : L = y
          · subst v; exact u
          · exact b2 L (by omega) h2
        · exact Or.inr ⟨b1, L, by omega, b3, b4⟩
def sb (g h : Nat → Int32) : Prop := ∀ L, L < 26 → ∀ j, bt (g L) j = true → bt (h L) j = true
def Tr (T : Nat → Int32) : Prop := ∀ a b c, a < 26 → b < 26 → bt (T a) b = true → bt (T b) c = true → bt (T a) c = true
theorem lk_139 {p : Nat} (hp : p < 26) {a b c d : Int32} {K : MS → Int32 → Option (Int32 × MS)} : ∀ (f q : Nat) (S : MS), q ≤ 26 → 26 < q + f → ∃ S', q_GM_link_139 f S (nI p) a b c d (nI q) K = K S' (nI 26) ∧ (∀ c, c ≠ 11 → S' c = S c) ∧ sb (S 11) (S' 11) ∧ (∀ T, Tr T → sb (S 11) T → sb (S' 11) T) ∧ (∀ r, q ≤ r → r < 26 → bt (S 11 p) r = true → ∀ j, bt (S 11 r) j = true → bt (S' 11 p) j = true) := by
  intro f
  induction f with
  | zero => intro q S hq hf; omega
  | succ f ih =>
    intro q S hq hf
    rw [q_GM_link_139]
    by_cases v : q = 26
    · subst v
      rw [if_pos y26]
      exact ⟨S, rfl, fun _ _ => rfl, fun _ _ _ z => z, fun T _ z => z, fun r h1 h2 => by omega⟩
    · rw [if_neg (n26 (by omega))]
      simp only [↓ltE, jnE, ix_nI hp (by omega), ix_nI (show q < 26 by omega) (by omega), gdE, nI_clamp (show p < 2 ^ 31 by omega), nI_clamp (show q < 2 ^ 31 by omega), nI_1, bt_ref _ (show q < 26 by omega)]
      cases u : bt (S 11 p) q with
      | false =>
        rw [if_neg (show ¬ (false = true) by decide), if_neg (by decide)]
        obtain ⟨S', b1, b2, b3, b4, b5⟩ := ih (q + 1) S (by omega) (by omega)
        refine ⟨S', b1, b2, b3, b4, fun r h1 h2 h3 => ?_⟩
        by_cases w : r = q
        · subst w; rw [u] at h3; cases h3
        · exact b5 r (by omega) h2 h3
      | true =>
        rw [if_pos rfl, if_pos rfl]
        have eo : ∀ i, stM S 11 p (S 11 p ||| S 11 q) 11 i = if i = p then S 11 p ||| S 11 q else S 11 i := fun i => by rw [stM_at, if_pos rfl]
        have s1 : sb (S 11) (stM S 11 p (S 11 p ||| S 11 q) 11) := fun L hL j z => by
          rw [eo]
          by_cases w : L = p
          · subst w; rw [if_pos rfl, bt_or, z]; rfl
          · rw [if_neg w]; exact z
        obtain ⟨S', b1, b2, b3, b4, b5⟩ := ih (q + 1) (stM S 11 p (S 11 p ||| S 11 q)) (by omega) (by omega)
        refine ⟨S', b1, fun c hc => by rw [b2 c hc, stM_o hc], fun L hL j z => b3 L hL j (s1 L hL j z), fun T hT z => b4 T hT ?_, fun r h1 h2 h3 j h4 => ?_⟩
        · intro L hL j y
          rw [eo] at y
          by_cases w : L = p
          · subst w
            rw [if_pos rfl, bt_or, Bool.or_eq_true] at y
            rcases y with y | y
            · exact z L hL j y
            · exact hT L q j hL (by omega) (z L hL q u) (z q (by omega) j y)
          · rw [if_neg w] at y
            exact z L hL j y
        · by_cases w : r = q
          · subst w
            apply b3 p hp j
            rw [eo, if_pos rfl, bt_or, h4, Bool.or_true]
          · exact b5 r (by omega) h2 (s1 p hp r h3) j (s1 r h2 j h4)
theorem lk_129 {a b c d : Int32} {K : MS → Int32 → Option (Int32 × MS)} : ∀ (f p : Nat) (S : MS), p ≤ 26 → 26 < p + f → ∃ S', q_GM_link_129 f S a b c d (nI p) K = K S' (nI 26) ∧ (∀ c, c ≠ 11 → S' c = S c) ∧ sb (S 11) (S' 11) ∧ (∀ T, Tr T → sb (S 11) T → sb (S' 11) T) ∧ (∀ x, p ≤ x → x < 26 → ∀ r, r < 26 → bt (S 11 x) r = true → ∀ j, bt (S 11 r) j = true → bt (S' 11 x) j = true) := by
  intro f
  induction f with
  | zero => intro q S hq hf; omega
  | succ f ih =>
    intro p S hp hf
    rw [q_GM_link_129]
    by_cases v : p = 26
    · subst v
      rw [if_pos y26]
      exact ⟨S, rfl, fun _ _ => rfl, fun _ _ _ z => z, fun T _ z => z, fun x h1 h2 => by omega⟩
    · rw [if_neg (n26 (by omega))]
      obtain ⟨S1, c1, c2, c3, c4, c5⟩ := lk_139 (show p < 26 by omega) (a := a) (b := b) (c := c) (d := d) (K := fun S185 y185_6 => lt (nI p + 1) fun x185 => q_GM_link_129 f S185 a b c d x185 K) (fz 2000) 0 S (by omega) (by rw [fz_eq]; omega)
      rw [nI_0] at c1
      rw [c1]
      simp only [↓ltE, nI_1]
      obtain ⟨S', b1, b2, b3, b4, b5⟩ := ih (p + 1) S1 (by omega) (by omega)
      refine ⟨S', b1, fun c hc => by rw [b2 c hc, c2 c hc], fun L hL j z => b3 L hL j (c3 L hL j z), fun T hT z => b4 T hT (c4 T hT z), fun x h1 h2 r h3 h4 j h5 => ?_⟩
      by_cases w : x = p
      · subst w
        exact b3 x h2 j (c5 r (Nat.zero_le _) h3 h4 j h5)
      · exact b5 x (by omega) h2 r h3 (c3 x h2 r h4) j (c3 r h3 j h5)
theorem lk_119 {g : Nat → Int32} {a b c : Int32} {K : MS → Int32 → Option (Int32 × MS)} : ∀ (f r : Nat) (S : MS), r ≤ 26 → 26 < r + f → sb (wsN g r) (S 11) → ∃ S', q_GM_link_119 f S a b c (nI r) K = K S' (nI 26) ∧ (∀ c, c ≠ 11 → S' c = S c) ∧ sb (wsN g 26) (S' 11) ∧ (∀ T, Tr T → sb (S 11) T → sb (S' 11) T) := by
  intro f
  induction f with
  | zero => intro q S hq hf; omega
  | succ f ih =>
    intro r S hr hf hS
    rw [q_GM_link_119]
    by_cases v : r = 26
    · subst v
      rw [if_pos y26]
      exact ⟨S, rfl, fun _ _ => rfl, hS, fun T _ z => z⟩
    · rw [if_neg (n26 (by omega))]
      obtain ⟨S1, c1, c2, c3, c4, c5⟩ := lk_129 (a := nI r) (b := a) (c := b) (d := c) (K := fun S191 y191_5 => lt (nI r + 1) fun x191 => q_GM_link_119 f S191 a b c x191 K) (fz 2000) 0 S (by omega) (by rw [fz_eq]; omega)
      rw [nI_0] at c1
      rw [c1]
      simp only [↓ltE, nI_1]
      obtain ⟨S', b1, b2, b3, b4⟩ := ih (r + 1) S1 (by omega) (by omega) (fun L hL j z => by
        rcases wst_b.mp z with z | ⟨z1, z2⟩
        · exact c3 L hL j (hS L hL j z)
        · exact c5 L (Nat.zero_le _) hL r (by omega) (hS L hL r z1) j (hS r (by omega) j z2))
      exact ⟨S', b1, fun c hc => by rw [b2 c hc, c2 c hc], b3, fun T hT z => b4 T hT (c4 T hT z)⟩
