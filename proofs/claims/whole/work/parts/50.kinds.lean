theorem rs7 (r : RS) : ∃ stk e h x g pr st, r = (stk, e, h, x, g, pr, st) := ⟨_, _, _, _, _, _, _, rfl⟩
theorem EP_blk {t : Nat → Int32} : ∀ {l : List (Nat × Nat)}, EP t l → EB t (blk t l) ∧ blk t l ≠ []
  | [], h => absurd h id
  | a :: l, h => by
    rcases h with h | h
    · rw [blk_y h.1.1]; exact ⟨h, List.cons_ne_nil _ _⟩
    · rw [blk_n (by omega)]; exact EP_blk h.2.2
def Kstep (t : Nat → Int32) (p : Nat) (stk : List (Nat × Nat)) (e hh : Nat) (x : Int32) (g : Nat) (pr : Int32) (st : Nat) : Prop :=
  (e = 0 ∧ stk = [] ∧ isL (t p) ∧ rr t (p + 1) = ([], 1, p, x, g, t p - 65, 0)) ∨
  (t p = 123 ∧ (e = 1 ∨ e = 7 ∨ e = 8) ∧ 3 ≤ kd t hh ∧ kd t hh ≤ 6 ∧ EB t stk ∧ (kd t hh = 3 → stk = []) ∧ stk.length < 6 ∧ rr t (p + 1) = ((hh, p) :: stk, 2, hh, x, g, pr, st)) ∨
  (t p = 58 ∧ e = 3 ∧ rr t (p + 1) = (stk, 1, p, x, g, pr, st)) ∨
  (∃ a l, t p = 125 ∧ (e = 2 ∨ e = 3) ∧ stk = a :: l ∧ rr t (p + 1) = (l, (if isL (t a.1) then 0 else if t a.1 = 63 then 3 else 2), hh, x, g, pr, st)) ∨
  (∃ e' x', (e = 2 ∨ e = 3) ∧ t p ≠ 58 ∧ t p ≠ 125 ∧ t p ≠ 123 ∧ t p ≠ 59 ∧ 4 ≤ e' ∧ e' ≤ 6 ∧ rr t (p + 1) = (stk, e', p, x', g, pr, st + 1)) ∨
  (∃ stk' e' g', 4 ≤ e ∧ t p ≠ 58 ∧ t p ≠ 125 ∧ t p ≠ 123 ∧ ¬ isL (t p) ∧ (e' = 2 ↔ t p = 59) ∧ (e' = 2 ∨ (6 ≤ e' ∧ e' ≤ 8)) ∧ blk t stk' = blk t stk ∧ rr t (p + 1) = (stk', e', hh, x, g', pr, st))
theorem nd {P : Int32 → Prop} {c : Int32} (d : Int32) (h : P c) (hn : ¬ P d) : c ≠ d := fun z => hn (z ▸ h)
theorem kinds {t : Nat → Int32} {n p : Nat} (h : WT t n) (hp : p < n) {stk : List (Nat × Nat)} {e hh : Nat} {x : Int32} {g : Nat} {pr : Int32} {st : Nat} (hr : rr t p = (stk, e, hh, x, g, pr, st)) : Kstep t p stk e hh x g pr st := by
  have hs := h.step hp
  have hW := h.ws (Nat.le_of_lt hp)
  rw [hr] at hs hW
  obtain ⟨a1, a2, a3, a4, a5, a6, a7, a8, a9, a10, a11, a12, a13⟩ := hW
  match e, a5 with
  | 0, _ =>
    obtain ⟨q, w⟩ := inv_0 hs
    have h0 := a8 rfl
    subst h0
    exact Or.inl ⟨rfl, rfl, q, w⟩
  | 1, _ =>
    obtain ⟨q, q2, w⟩ := inv_1 hs
    have hk : (3 ≤ kd t hh ∧ kd t hh ≤ 6) ∧ (kd t hh = 3 → stk = []) := by
      rcases a9 rfl with z | z
      · exact ⟨by omega, fun _ => z.2⟩
      · exact ⟨by omega, fun w => by omega⟩
    exact Or.inr (Or.inl ⟨q, by omega, hk.1.1, hk.1.2, a6 (by omega), hk.2, q2, w⟩)
  | 2, _ | 3, _ =>
    rcases inv_23 (by omega) hs with ⟨w1, w2, w⟩ | ⟨a, l, w1, w2, w⟩ | ⟨w1, w2, w3⟩
    · exact Or.inr (Or.inr (Or.inl ⟨w2, w1, w⟩))
    · exact Or.inr (Or.inr (Or.inr (Or.inl ⟨a, l, w1, by omega, w2, w⟩)))
    · rcases w3 with ⟨w3, w⟩ | ⟨w3, w⟩ | ⟨w3, w⟩ | ⟨w3, w⟩
      · exact Or.inr (Or.inr (Or.inr (Or.inr (Or.inl ⟨_, _, by omega, w1, w2, nd (P := isV) 123 w3 (by decide), nd (P := isV) 59 w3 (by decide), by omega, by omega, w⟩))))
      · exact Or.inr (Or.inr (Or.inr (Or.inr (Or.inl ⟨_, _, by omega, w1, w2, nd (P := isL) 123 w3 (by decide), nd (P := isL) 59 w3 (by decide), by omega, by omega, w⟩))))
      · exact Or.inr (Or.inr (Or.inr (Or.inr (Or.inl ⟨_, _, by omega, w1, w2, nd (P := fun c => c = 33) 123 w3 (by decide), nd (P := fun c => c = 33) 59 w3 (by decide), by omega, by omega, w⟩))))
      · exact Or.inr (Or.inr (Or.inr (Or.inr (Or.inl ⟨_, _, by omega, w1, w2, nd (P := fun c => c = 63 ∨ c = 64) 123 w3 (by decide), nd (P := fun c => c = 63 ∨ c = 64) 59 w3 (by decide), by omega, by omega, w⟩))))
  | 4, _ =>
    obtain ⟨q, w⟩ := inv_4 hs
    exact Or.inr (Or.inr (Or.inr (Or.inr (Or.inr ⟨_, _, _, by omega, by rw [q]; decide, by rw [q]; decide, by rw [q]; decide, by rw [q]; decide, ⟨fun z => by omega, fun z => by rw [q] at z; exact absurd z (by decide)⟩, by omega, rfl, w⟩))))
  | 5, _ =>
    obtain ⟨q, w⟩ := inv_5 hs
    exact Or.inr (Or.inr (Or.inr (Or.inr (Or.inr ⟨_, _, _, by omega, by rw [q]; decide, by rw [q]; decide, by rw [q]; decide, by rw [q]; decide, ⟨fun z => q, fun z => rfl⟩, by omega, rfl, w⟩))))
  | 6, _ =>
    refine Or.inr (Or.inr (Or.inr (Or.inr (Or.inr ?_))))
    rcases inv_6 hs with ⟨q, q2, w⟩ | ⟨q, w⟩ | ⟨q, w⟩
    · have hk : ¬ 3 ≤ kd t p := by
        rcases q with q | q
        · have := kd_1 q; omega
        · have := kd_2 q; omega
      have dd : ∀ d : Int32, ¬ (d = 40 ∨ isP d) → t p ≠ d := fun d hd => nd (P := fun c => c = 40 ∨ isP c) d q hd
      refine ⟨_, _, _, by omega, dd 58 (by decide), dd 125 (by decide), dd 123 (by decide), ?_, ⟨fun z => by omega, fun z => absurd z (dd 59 (by decide))⟩, by omega, blk_n hk, w⟩
      rcases q with q | q | q <;> (rw [q]; decide)
    · exact ⟨_, _, _, by omega, nd (P := isV) 58 q (by decide), nd (P := isV) 125 q (by decide), nd (P := isV) 123 q (by decide), by omega, ⟨fun z => by omega, fun z => absurd z (nd (P := isV) 59 q (by decide))⟩, by omega, blk_pop t stk, w⟩
    · exact ⟨_, _, _, by omega, nd (P := isD) 58 q (by decide), nd (P := isD) 125 q (by decide), nd (P := isD) 123 q (by decide), by omega, ⟨fun z => by omega, fun z => absurd z (nd (P := isD) 59 q (by decide))⟩, by omega, blk_pop t stk, w⟩
  | 7, _ | 8, _ =>
    have hEP := a7 (by omega)
    have hpp := a12 (by omega)
    have hx := a11 (by omega)
    rcases inv_78 (by omega) hs with ⟨w1, q, w3, w⟩ | ⟨_, ⟨q, w⟩ | ⟨b, l', _, w1, w2, q, w⟩ | ⟨b, l', _, w1, w2, w3, w4, w5, w⟩ | ⟨b, l', _, w1, w2, w3, w4, w⟩⟩
    · exact Or.inr (Or.inr (Or.inr (Or.inr (Or.inr ⟨_, _, _, by omega, nd (P := isD) 58 q (by decide), nd (P := isD) 125 q (by decide), nd (P := isD) 123 q (by decide), by omega, ⟨fun z => by omega, fun z => absurd z (nd (P := isD) 59 q (by decide))⟩, by omega, rfl, w⟩))))
    · refine Or.inr (Or.inr (Or.inr (Or.inr (Or.inr ⟨_, _, _, by omega, nd (P := isO) 58 q (by decide), nd (P := isO) 125 q (by decide), nd (P := isO) 123 q (by decide), ?_, ⟨fun z => by omega, fun z => absurd z (nd (P := isO) 59 q (by decide))⟩, by omega, rfl, w⟩))))
      rcases q with q | q | q | q | q | q | q <;> (rw [q]; decide)
    · refine Or.inr (Or.inr (Or.inr (Or.inr (Or.inr ⟨_, _, _, by omega, by rw [q]; decide, by rw [q]; decide, by rw [q]; decide, by rw [q]; decide, ⟨fun z => by omega, fun z => by rw [q] at z; exact absurd z (by decide)⟩, by omega, ?_, w⟩))))
      rw [blk_pop, w1, blk_n (by have := kd_1 w2; omega)]
    · subst w1
      have hEB : EB t (b :: l') := by
        rcases hEP with w | w
        · exact w
        · rcases w.1 with w | w
          · exact absurd (kd_40 w) w2
          · exact absurd (kd_P w) (pop_ne hpp)
      have hk : kd t hh = 4 ∨ kd t hh = 6 := by
        rcases hx with z | z
        · rw [← w3, w4] at z; exact absurd z (by decide)
        · exact z.2
      exact Or.inr (Or.inl ⟨w4, by omega, by omega, by omega, hEB, fun z => by omega, w5, w⟩)
    · have h59 : t p = 59 := by
        rcases hx with z | z
        · rw [w3, z]
        · rw [w3, z.1] at w4; exact absurd rfl w4
      exact Or.inr (Or.inr (Or.inr (Or.inr (Or.inr ⟨_, _, _, by omega, by rw [h59]; decide, by rw [h59]; decide, by rw [h59]; decide, by rw [h59]; decide, ⟨fun z => h59, fun z => rfl⟩, by omega, rfl, w⟩))))
/-- behind a ':' stands its head -/
theorem pv_1 {t : Nat → Int32} {n p : Nat} (h : WT t n) (hp : p ≤ n) {stk : List (Nat × Nat)} {hh : Nat} {x : Int32} {g : Nat} {pr : Int32} {st : Nat} (hr : rr t p = (stk, 1, hh, x, g, pr, st)) : p = hh + 1 := by
  cases p with
  | zero =>
    have := h.run (Nat.zero_le n)
    rw [hr] at this
    cases this
  | succ p =>
    obtain ⟨stk0, e, h0, x0, g0, pr0, st0, w0⟩ := rs7 (rr t p)
    rcases kinds h (by omega) w0 with ⟨_, _, _, w⟩ | ⟨_, _, _, _, _, _, _, w⟩ | ⟨_, _, w⟩ | ⟨a, l, _, _, _, w⟩ | ⟨e', x', _, _, _, _, _, _, _, w⟩ | ⟨s', e', g', _, _, _, _, _, _, _, _, w⟩
    · rw [hr] at w; cases w; rfl
    · rw [hr] at w; cases w
    · rw [hr] at w; cases w; rfl
    · rw [hr] at w
      have w := congrArg (fun r : RS => r.2.1) w
      have w : 1 = (if isL (t a.1) then 0 else if t a.1 = 63 then 3 else 2) := w
      revert w; split
      · omega
      · split <;> omega
    · rw [hr] at w; cases w; omega
    · rw [hr] at w; cases w; omega
theorem pv_58 {t : Nat → Int32} {n p : Nat} (h : WT t n) (hp : p < n) (h58 : t p = 58) : (rr t (p + 1)).2.1 = 1 := by
  obtain ⟨stk0, e, h0, x0, g0, pr0, st0, w0⟩ := rs7 (rr t p)
  rcases kinds h hp w0 with ⟨_, _, z, w⟩ | ⟨z, _, _, _, _, _, _, w⟩ | ⟨_, _, w⟩ | ⟨a, l, z, _, _, w⟩ | ⟨e', x', _, z, _, _, _, _, _, w⟩ | ⟨s', e', g', _, z, _, _, _, _, _, _, w⟩
  · rw [h58] at z; exact absurd z (by decide)
  · rw [h58] at z; exact absurd z (by decide)
  · rw [w]
  · rw [h58] at z; exact absurd z (by decide)
  · exact absurd h58 z
  · exact absurd h58 z
theorem pv_3 {t : Nat → Int32} {n p : Nat} (h : WT t n) (hp : p ≤ n) {stk : List (Nat × Nat)} {hh : Nat} {x : Int32} {g : Nat} {pr : Int32} {st : Nat} (hr : rr t p = (stk, 3, hh, x, g, pr, st)) : ∃ q a, p = q + 1 ∧ t q = 125 ∧ ((rr t q).2.1 = 2 ∨ (rr t q).2.1 = 3) ∧ (rr t q).1 = a :: stk ∧ t a.1 = 63 := by
  cases p with
  | zero =>
    have := h.run (Nat.zero_le n)
    rw [hr] at this
    cases this
  | succ p =>
    obtain ⟨stk0, e, h0, x0, g0, pr0, st0, w0⟩ := rs7 (rr t p)
    rcases kinds h (by omega) w0 with ⟨_, _, _, w⟩ | ⟨_, _, _, _, _, _, _, w⟩ | ⟨_, _, w⟩ | ⟨a, l, z1, z2, z3, w⟩ | ⟨e', x', _, _, _, _, _, _, _, w⟩ | ⟨s', e', g', _, _, _, _, _, _, _, _, w⟩
    · rw [hr] at w; cases w
    · rw [hr] at w; cases w
    · rw [hr] at w; cases w
    · rw [hr] at w
      have w1 := congrArg (fun r : RS => r.2.1) w
      have w1 : 3 = (if isL (t a.1) then 0 else if t a.1 = 63 then 3 else 2) := w1
      have w2 : stk = l := congrArg (fun r : RS => r.1) w
      refine ⟨p, a, rfl, z1, by rw [w0]; exact z2, by rw [w0]; show stk0 = _; rw [z3, w2], ?_⟩
      revert w1; split
      · omega
      · split
        · intro _; assumption
        · omega
    · rw [hr] at w; cases w; omega
    · rw [hr] at w; cases w; omega
def SO : List (Nat × Nat) → Prop
  | [] => True
  | a :: l => (∀ b ∈ l, b.2 < a.2) ∧ SO l
theorem SO_pop {t : Nat → Int32} : ∀ {l : List (Nat × Nat)}, SO l → SO (popP t l)
  | [], _ => trivial
  | a :: l, h => by
    by_cases q : isP (t a.1)
    · rw [pop_y q]; exact SO_pop h.2
    · rw [pop_n q]; exact h
theorem SO_step {t : Nat → Int32} {p : Nat} {r r' : RS} (hW : WS t p r) (hs : stepR t p r = some r') (hS : SO r.1) : SO r'.1 ∧ (∀ b ∈ r'.1, b ∈ r.1 ∨ b.2 = p) := by
  obtain ⟨stk, e, h, x, g, pr, st⟩ := r
  have a5 : e ≤ 8 := hW.2.2.2.2.1
  have a1 : ∀ b ∈ stk, b.1 < p ∧ b.2 < p := hW.1
  have hS : SO stk := hS
  have pu : ∀ c : Nat, SO ((c, p) :: stk) ∧ (∀ b ∈ (c, p) :: stk, b ∈ stk ∨ b.2 = p) := fun c => ⟨⟨fun b hb => (a1 b hb).2, hS⟩, fun b hb => by
    rcases List.mem_cons.mp hb with rfl | hb
    · exact Or.inr rfl
    · exact Or.inl hb⟩
  have sm : SO stk ∧ (∀ b ∈ stk, b ∈ stk ∨ b.2 = p) := ⟨hS, fun b hb => Or.inl hb⟩
  have po : SO (popP t stk) ∧ (∀ b ∈ popP t stk, b ∈ stk ∨ b.2 = p) := ⟨SO_pop hS, fun b hb => Or.inl (pop_mem hb)⟩
  match e, a5 with
  | 0, _ => obtain ⟨q, rfl⟩ := inv_0 hs; exact sm
  | 1, _ => obtain ⟨q, q2, rfl⟩ := inv_1 hs; exact pu h
  | 2, _ | 3, _ =>
    rcases inv_23 (by omega) hs with ⟨w1, w2, rfl⟩ | ⟨b, l', w1, rfl, rfl⟩ | ⟨w1, w2, w3⟩
    · exact sm
    · exact ⟨hS.2, fun c hc => Or.inl (List.mem_cons_of_mem _ hc)⟩
    · rcases w3 with ⟨w3, rfl⟩ | ⟨w3, rfl⟩ | ⟨w3, rfl⟩ | ⟨w3, rfl⟩ <;> exact sm
  | 4, _ => obtain ⟨q, rfl⟩ := inv_4 hs; exact sm
  | 5, _ => obtain ⟨q, rfl⟩ := inv_5 hs; exact sm
  | 6, _ =>
    rcases inv_6 hs with ⟨q, q2, rfl⟩ | ⟨q, rfl⟩ | ⟨q, rfl⟩
    · exact pu p
    · exact po
    · exact po
  | 7, _ | 8, _ =>
    rcases inv_78 (by omega) hs with ⟨w1, w2, w3, rfl⟩ | ⟨_, ⟨w1, rfl⟩ | ⟨b, l', _, rfl, w2, w3, rfl⟩ | ⟨b, l', _, rfl, w2, w3, w4, w5, rfl⟩ | ⟨b, l', _, rfl, w2, w3, w4, rfl⟩⟩
    · exact sm
    · exact sm
    · exact ⟨SO_pop hS.2, fun c hc => Or.inl (List.mem_cons_of_mem _ (pop_mem hc))⟩
    · exact pu h
    · exact sm
theorem SO_run {t : Nat → Int32} : ∀ {p : Nat} {r : RS}, runR t p = some r → SO r.1
  | 0, r, h => by cases h; exact trivial
  | p + 1, r, h => by
    obtain ⟨r1, h1, h2⟩ := runR_p h
    exact (SO_step (WS_run h1) h2 (SO_run h1)).1
/-- a block's own place, once closed, is gone -/
theorem GO_run {t : Nat → Int32} {q : Nat} {a : Nat × Nat} {l : List (Nat × Nat)} (hq : t q = 125) (he : (rr t q).2.1 = 2 ∨ (rr t q).2.1 = 3) (hs : (rr t q).1 = a :: l) : ∀ {p : Nat} {r : RS}, q < p → runR t p = some r → ∀ b ∈ r.1, b.2 ≠ a.2
  | 0, _, h, _ => by omega
  | p + 1, r, h, hr => by
    obtain ⟨r1, h1, h2⟩ := runR_p hr
    have hW := WS_run h1
    by_cases w : q = p
    · subst w
      have e := rr_of h1
      rw [e] at he hs
      have hO := SO_run h1
      obtain ⟨stk, e', hh, x, g, pr, st⟩ := r1
      have hs : stk = a :: l := hs
      subst hs
      rcases inv_23 he h2 with ⟨w1, w2, rfl⟩ | ⟨b, l', w1, w2, rfl⟩ | ⟨w1, w2, w3⟩
      · rw [hq] at w2; exact absurd w2 (by decide)
      · cases w2
        exact fun b hb => Nat.ne_of_lt (hO.1 b hb)
      · exact absurd hq w2
    · have ih := GO_run hq he hs (show q < p by omega) h1
      have ha : a.2 < q := by
        obtain ⟨r2, h3⟩ := runR_le h1 (show q ≤ p by omega)
        have hW2 := WS_run h3
        rw [rr_of h3] at hs
        obtain ⟨stk, e', hh, x, g, pr, st⟩ := r2
        have hs : stk = a :: l := hs
        subst hs
        exact (hW2.1 a List.mem_cons_self).2
      intro b hb
      rcases (SO_step hW h2 (SO_run h1)).2 b hb with z | z
      · exact ih b z
      · omega
