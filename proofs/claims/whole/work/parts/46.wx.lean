def blk (t : Nat → Int32) : List (Nat × Nat) → List (Nat × Nat)
  | [] => []
  | a :: l => if 3 ≤ kd t a.1 then a :: l else blk t l
def bot : List (Nat × Nat) → Nat → Nat
  | [], d => d
  | a :: l, _ => bot l a.1
def TR (t : Nat → Int32) : List (Nat × Nat) → Prop
  | [] => True
  | a :: l => ((∀ b ∈ l, b.1 < a.1) ∧ (4 ≤ kd t a.1 → (rr t a.1).1 = l ∧ ((rr t a.1).2.1 = 2 ∨ (rr t a.1).2.1 = 3))) ∧ TR t l
theorem blk_n {t : Nat → Int32} {a : Nat × Nat} {l : List (Nat × Nat)} (h : ¬ 3 ≤ kd t a.1) : blk t (a :: l) = blk t l := by rw [blk, if_neg h]
theorem blk_y {t : Nat → Int32} {a : Nat × Nat} {l : List (Nat × Nat)} (h : 3 ≤ kd t a.1) : blk t (a :: l) = a :: l := by rw [blk, if_pos h]
theorem blk_pop (t : Nat → Int32) : ∀ l : List (Nat × Nat), blk t (popP t l) = blk t l
  | [] => rfl
  | a :: l => by
    by_cases q : isP (t a.1)
    · rw [pop_y q, blk_n (by have := kd_2 q; omega)]; exact blk_pop t l
    · rw [pop_n q]
theorem blk_EB {t : Nat → Int32} : ∀ {l : List (Nat × Nat)}, EB t l → blk t l = l
  | [], _ => rfl
  | _ :: _, h => blk_y h.1.1
theorem blk_mem {t : Nat → Int32} : ∀ {l : List (Nat × Nat)} {a : Nat × Nat}, a ∈ blk t l → a ∈ l
  | [], _, h => h
  | b :: l, a, h => by
    by_cases q : 3 ≤ kd t b.1
    · rw [blk_y q] at h; exact h
    · rw [blk_n q] at h; exact List.mem_cons_of_mem _ (blk_mem h)
theorem bot_pop {t : Nat → Int32} : ∀ {l : List (Nat × Nat)} (d : Nat), popP t l ≠ [] → bot (popP t l) d = bot l d
  | [], d, _ => rfl
  | a :: l, d, h => by
    by_cases q : isP (t a.1)
    · rw [pop_y q] at h ⊢
      rw [bot_pop d h]
      cases l with
      | nil => exact absurd rfl h
      | cons b l => rfl
    · rw [pop_n q]
theorem bot_cons {l : List (Nat × Nat)} (a : Nat × Nat) (d : Nat) (h : l ≠ []) : bot (a :: l) d = bot l d := by
  cases l with
  | nil => exact absurd rfl h
  | cons b l => rfl
theorem TR_pop {t : Nat → Int32} : ∀ {l : List (Nat × Nat)}, TR t l → TR t (popP t l)
  | [], _ => trivial
  | a :: l, h => by
    by_cases q : isP (t a.1)
    · rw [pop_y q]; exact TR_pop h.2
    · rw [pop_n q]; exact h
def WX (t : Nat → Int32) : RS → Prop
  | (stk, e, h, x, _, pr, _) => TR t stk ∧ (e = 1 → t h = 58 → (rr t h).1 = stk ∧ (rr t h).2.1 = 3) ∧
    (4 ≤ e → (rr t h).1 = blk t stk ∧ ((rr t h).2.1 = 2 ∨ (rr t h).2.1 = 3) ∧ t h ≠ 58 ∧ t h ≠ 125 ∧ (x = 123 ↔ (t h = 63 ∨ t h = 64))) ∧
    (e = 1 ∨ 4 ≤ e → ∀ a ∈ blk t stk, a.1 < h) ∧ (stk ≠ [] → pr = t (bot stk 0) - 65) ∧ (e = 1 → stk = [] → pr = t h - 65)
theorem WX_step {t : Nat → Int32} {p : Nat} {r r' : RS} (hr : rr t p = r) (hW : WS t p r) (hX : WX t r) (hs : stepR t p r = some r') : WX t r' := by
  obtain ⟨stk, e, h, x, g, pr, st⟩ := r
  obtain ⟨a1, a2, a3, a4, a5, a6, a7, a8, a9, a10, a11, a12, a13⟩ := hW
  obtain ⟨x1, x2, x3, x4, x5, x6⟩ := hX
  have hp : ∀ b ∈ stk, b.1 < p := fun b hb => (a1 b hb).1
  match e, a5 with
  | 0, _ =>
    obtain ⟨q, rfl⟩ := inv_0 hs
    have := a8 rfl
    subst this
    exact ⟨trivial, fun _ z => by rw [z] at q; exact absurd q (by decide), fun z => by omega, fun _ a ha => absurd ha List.not_mem_nil, fun z => absurd rfl z, fun _ _ => rfl⟩
  | 1, _ =>
    obtain ⟨q, q2, rfl⟩ := inv_1 hs
    refine ⟨⟨⟨?_, ?_⟩, x1⟩, fun z => by omega, fun z => by omega, fun z => by omega, fun _ => ?_, fun z => by omega⟩
    · have w := x4 (Or.inl rfl)
      rw [blk_EB (a6 (by omega))] at w
      exact w
    · intro z
      rcases a9 rfl with ⟨w, _⟩ | ⟨w, _⟩
      · have z : 4 ≤ kd t h := z
        omega
      · have w2 := kd_58 w
        exact ⟨(x2 rfl w2).1, Or.inr (x2 rfl w2).2⟩
    · cases stk with
      | nil => exact x6 rfl rfl
      | cons b l => exact x5 (List.cons_ne_nil _ _)
  | 2, _ | 3, _ =>
    have hne := a10 (by omega)
    have hEB := a6 (by omega)
    rcases inv_23 (by omega) hs with ⟨w1, w2, rfl⟩ | ⟨a, l, w1, rfl, rfl⟩ | ⟨w1, w2, w3⟩
    · refine ⟨x1, fun _ _ => ⟨by rw [hr], (congrArg (fun r : RS => r.2.1) hr).trans w1⟩, fun z => by omega, fun _ a ha => hp a (blk_mem ha), fun z => x5 z, fun _ z => absurd z hne⟩
    · refine ⟨x1.2, fun z => ?_, fun z => ?_, fun z => ?_, fun z => ?_, fun z => ?_⟩
      · revert z; split
        · omega
        · split <;> omega
      · revert z; split
        · omega
        · split <;> omega
      · revert z; split
        · omega
        · split <;> omega
      · rw [x5 hne, bot_cons a 0 z]
      · revert z; split
        · omega
        · split <;> omega
    · have key : ∀ (e' : Nat) (x' : Int32), 4 ≤ e' → (x' = 123 ↔ (t p = 63 ∨ t p = 64)) → WX t (stk, e', p, x', g, pr, st + 1) := by
        intro e' x' h4 hx
        exact ⟨x1, fun z => by omega, fun _ => ⟨by rw [hr, blk_EB hEB], by rw [hr]; simp, w1, w2, hx⟩, fun _ a ha => hp a (blk_mem ha), fun z => x5 z, fun z => by omega⟩
      rcases w3 with ⟨w3, rfl⟩ | ⟨w3, rfl⟩ | ⟨w3, rfl⟩ | ⟨w3, rfl⟩
      · exact key _ _ (by omega) ⟨fun z => absurd z (by decide), fun z => by rcases z with z | z <;> (rw [z] at w3; exact absurd w3 (by decide))⟩
      · exact key _ _ (by omega) ⟨fun z => absurd z (by decide), fun z => by rcases z with z | z <;> (rw [z] at w3; exact absurd w3 (by decide))⟩
      · exact key _ _ (by omega) ⟨fun z => absurd z (by decide), fun z => by rcases z with z | z <;> (rw [z] at w3; exact absurd w3 (by decide))⟩
      · exact key _ _ (by omega) ⟨fun _ => w3, fun _ => rfl⟩
  | 4, _ =>
    obtain ⟨q, rfl⟩ := inv_4 hs
    exact ⟨x1, fun z => by omega, fun _ => x3 (by omega), fun _ => x4 (by omega), x5, fun z => by omega⟩
  | 5, _ =>
    obtain ⟨q, rfl⟩ := inv_5 hs
    exact ⟨x1, fun z => by omega, fun z => by omega, fun z => by omega, x5, fun z => by omega⟩
  | 6, _ =>
    have hne := a10 (by omega)
    have hEP := a7 (by omega)
    have key : ∀ (e' g' : Nat), 4 ≤ e' → WX t (popP t stk, e', h, x, g', pr, st) := by
      intro e' g' h4
      refine ⟨TR_pop x1, fun z => by omega, fun _ => ?_, fun _ => ?_, fun z => ?_, fun z => by omega⟩
      · rw [blk_pop]; exact x3 (by omega)
      · rw [blk_pop]; exact x4 (by omega)
      · rw [bot_pop 0 z]; exact x5 hne
    rcases inv_6 hs with ⟨q, q2, rfl⟩ | ⟨q, rfl⟩ | ⟨q, rfl⟩
    · have hk : ¬ 3 ≤ kd t p := by
        rcases q with q | q
        · have := kd_1 q; omega
        · have := kd_2 q; omega
      refine ⟨⟨⟨hp, fun z => by have z : 4 ≤ kd t p := z; omega⟩, x1⟩, fun z => by omega, fun _ => ?_, fun _ => ?_, fun _ => ?_, fun z => by omega⟩
      · rw [blk_n hk]; exact x3 (by omega)
      · rw [blk_n hk]; exact x4 (by omega)
      · rw [bot_cons _ 0 hne]; exact x5 hne
    · exact key 8 g (by omega)
    · exact key 7 1 (by omega)
  | 7, _ | 8, _ =>
    have hne := a10 (by omega)
    have hEP := a7 (by omega)
    have hpp := a12 (by omega)
    rcases inv_78 (by omega) hs with ⟨w1, w2, w3, rfl⟩ | ⟨_, ⟨w1, rfl⟩ | ⟨a, l, _, rfl, w2, w3, rfl⟩ | ⟨a, l, _, rfl, w2, w3, w4, w5, rfl⟩ | ⟨a, l, _, rfl, w2, w3, w4, rfl⟩⟩
    · exact ⟨x1, fun z => by omega, fun _ => x3 (by omega), fun _ => x4 (by omega), x5, fun z => by omega⟩
    · exact ⟨x1, fun z => by omega, fun _ => x3 (by omega), fun _ => x4 (by omega), x5, fun z => by omega⟩
    · have hk : ¬ 3 ≤ kd t a.1 := by have := kd_1 w2; omega
      have x3 := x3 (by omega)
      have x4 := x4 (by omega)
      rw [blk_n hk] at x3 x4
      refine ⟨TR_pop x1.2, fun z => by omega, fun _ => ?_, fun _ => ?_, fun z => ?_, fun z => by omega⟩
      · rw [blk_pop]; exact x3
      · rw [blk_pop]; exact x4
      · rw [bot_pop 0 z, x5 hne, bot_cons a 0 (fun w => by rw [w] at z; exact z rfl)]
    · have hEB : EB t (a :: l) := by
        rcases hEP with w | w
        · exact w
        · rcases w.1 with w | w
          · exact absurd (kd_40 w) w2
          · exact absurd (kd_P w) (pop_ne hpp)
      have x3 := x3 (by omega)
      have x4 := x4 (by omega)
      rw [blk_EB hEB] at x3 x4
      refine ⟨⟨⟨x4, fun _ => ⟨x3.1, x3.2.1⟩⟩, x1⟩, fun z => by omega, fun z => by omega, fun z => by omega, fun _ => ?_, fun z => by omega⟩
      rw [bot_cons _ 0 hne]; exact x5 hne
    · exact ⟨x1, fun z => by omega, fun z => by omega, fun z => by omega, x5, fun z => by omega⟩
theorem WX_run {t : Nat → Int32} : ∀ {p : Nat} {r : RS}, runR t p = some r → WX t r
  | 0, r, h => by cases h; exact ⟨trivial, fun z => by omega, fun z => by omega, fun z => by omega, fun z => absurd rfl z, fun z => by omega⟩
  | p + 1, r, h => by
    obtain ⟨r1, h1, h2⟩ := runR_p h
    exact WX_step (rr_of h1) (WS_run h1) (WX_run h1) h2
theorem pop_app {t : Nat → Int32} {a : Nat × Nat} {l : List (Nat × Nat)} (ha : 3 ≤ kd t a.1) : ∀ s : List (Nat × Nat), ∃ s', popP t (s ++ a :: l) = s' ++ a :: l
  | [] => ⟨[], by rw [List.nil_append, pop_n (fun q => by have := kd_2 q; omega)]⟩
  | b :: s => by
    by_cases q : isP (t b.1)
    · obtain ⟨s', h⟩ := pop_app ha s
      exact ⟨s', by rw [List.cons_append, pop_y q, h]⟩
    · exact ⟨b :: s, by rw [List.cons_append, pop_n q]⟩
theorem keep {t : Nat → Int32} {p : Nat} {r r' : RS} {a : Nat × Nat} {l : List (Nat × Nat)} (ha : 3 ≤ kd t a.1) (hW : WS t p r) (hs : stepR t p r = some r') (s : List (Nat × Nat)) (hr : r.1 = s ++ a :: l) : (∃ s', r'.1 = s' ++ a :: l) ∨ (s = [] ∧ t p = 125 ∧ (r.2.1 = 2 ∨ r.2.1 = 3) ∧ r'.1 = l) := by
  obtain ⟨stk, e, h, x, g, pr, st⟩ := r
  have hr : stk = s ++ a :: l := hr
  have a5 : e ≤ 8 := hW.2.2.2.2.1
  have a8 := hW.2.2.2.2.2.2.2.1
  match e, a5 with
  | 0, _ => rw [a8 rfl] at hr; cases s <;> cases hr
  | 1, _ =>
    obtain ⟨q, q2, rfl⟩ := inv_1 hs
    exact Or.inl ⟨(h, p) :: s, by rw [List.cons_append, ← hr]⟩
  | 2, _ | 3, _ =>
    rcases inv_23 (by omega) hs with ⟨w1, w2, rfl⟩ | ⟨b, l', w1, w2, rfl⟩ | ⟨w1, w2, w3⟩
    · exact Or.inl ⟨s, hr⟩
    · rw [w2] at hr
      cases s with
      | nil => cases hr; exact Or.inr ⟨rfl, w1, by simp, rfl⟩
      | cons c s => cases hr; exact Or.inl ⟨s, rfl⟩
    · rcases w3 with ⟨w3, rfl⟩ | ⟨w3, rfl⟩ | ⟨w3, rfl⟩ | ⟨w3, rfl⟩ <;> exact Or.inl ⟨s, hr⟩
  | 4, _ => obtain ⟨q, rfl⟩ := inv_4 hs; exact Or.inl ⟨s, hr⟩
  | 5, _ => obtain ⟨q, rfl⟩ := inv_5 hs; exact Or.inl ⟨s, hr⟩
  | 6, _ =>
    rcases inv_6 hs with ⟨q, q2, rfl⟩ | ⟨q, rfl⟩ | ⟨q, rfl⟩
    · exact Or.inl ⟨(p, p) :: s, by rw [List.cons_append, ← hr]⟩
    · rw [show stk = s ++ a :: l from hr]; exact Or.inl (pop_app ha s)
    · rw [show stk = s ++ a :: l from hr]; exact Or.inl (pop_app ha s)
  | 7, _ | 8, _ =>
    rcases inv_78 (by omega) hs with ⟨w1, w2, w3, rfl⟩ | ⟨_, ⟨w1, rfl⟩ | ⟨b, l', _, w1, w2, w3, rfl⟩ | ⟨b, l', _, w1, w2, w3, w4, w5, rfl⟩ | ⟨b, l', _, w1, w2, w3, w4, rfl⟩⟩
    · exact Or.inl ⟨s, hr⟩
    · exact Or.inl ⟨s, hr⟩
    · rw [w1] at hr
      cases s with
      | nil => cases hr; have := kd_1 w2; omega
      | cons c s => cases hr; exact Or.inl (pop_app ha s)
    · exact Or.inl ⟨(h, p) :: s, by rw [List.cons_append, ← hr]⟩
    · exact Or.inl ⟨s, hr⟩
/-- a block that is open is closed -/
theorem closes {t : Nat → Int32} {n : Nat} (h : WT t n) {a : Nat × Nat} {l : List (Nat × Nat)} (ha : 3 ≤ kd t a.1) : ∀ (d o : Nat) (s : List (Nat × Nat)), o ≤ n → n - o ≤ d → (rr t o).1 = s ++ a :: l → ∃ q, o ≤ q ∧ q < n ∧ t q = 125 ∧ (rr t q).1 = a :: l ∧ ((rr t q).2.1 = 2 ∨ (rr t q).2.1 = 3) ∧ (rr t (q + 1)).1 = l := by
  intro d
  induction d with
  | zero =>
    intro o s ho hd hs
    have : o = n := by omega
    subst this
    rw [h.fin.2] at hs
    cases s <;> cases hs
  | succ d ih =>
    intro o s ho hd hs
    by_cases q : o = n
    · subst q
      rw [h.fin.2] at hs
      cases s <;> cases hs
    · rcases keep ha (h.ws ho) (h.step (by omega)) s hs with ⟨s', w⟩ | ⟨w1, w2, w3, w4⟩
      · obtain ⟨q', b1, b2⟩ := ih (o + 1) s' (by omega) (by omega) w
        exact ⟨q', by omega, b2⟩
      · subst w1
        exact ⟨o, Nat.le_refl o, by omega, w2, hs, w3, w4⟩
/-- a head that was closed is gone -/
def GN (hd : Nat) : RS → Prop
  | (stk, e, h, _, _, _, _) => (∀ b ∈ stk, b.1 ≠ hd) ∧ (e = 1 ∨ 4 ≤ e → h ≠ hd)
theorem GN_step {t : Nat → Int32} {p hd : Nat} {r r' : RS} (hW : WS t p r) (hs : stepR t p r = some r') (hp : hd < p) (hG : GN hd r) : GN hd r' := by
  obtain ⟨stk, e, h, x, g, pr, st⟩ := r
  have a5 : e ≤ 8 := hW.2.2.2.2.1
  obtain ⟨g1, g2⟩ := hG
  have pu : ∀ c : Nat × Nat, c.1 ≠ hd → ∀ b ∈ c :: stk, b.1 ≠ hd := fun c hc b hb => by
    rcases List.mem_cons.mp hb with rfl | hb
    · exact hc
    · exact g1 b hb
  match e, a5 with
  | 0, _ => obtain ⟨q, rfl⟩ := inv_0 hs; exact ⟨g1, fun _ => by omega⟩
  | 1, _ =>
    obtain ⟨q, q2, rfl⟩ := inv_1 hs
    exact ⟨pu (h, p) (g2 (Or.inl rfl)), fun z => by omega⟩
  | 2, _ | 3, _ =>
    rcases inv_23 (by omega) hs with ⟨w1, w2, rfl⟩ | ⟨b, l', w1, rfl, rfl⟩ | ⟨w1, w2, w3⟩
    · exact ⟨g1, fun _ => by omega⟩
    · refine ⟨fun b hb => g1 b (List.mem_cons_of_mem _ hb), fun z => ?_⟩
      revert z; split
      · omega
      · split <;> omega
    · rcases w3 with ⟨w3, rfl⟩ | ⟨w3, rfl⟩ | ⟨w3, rfl⟩ | ⟨w3, rfl⟩ <;> exact ⟨g1, fun _ => by omega⟩
  | 4, _ => obtain ⟨q, rfl⟩ := inv_4 hs; exact ⟨g1, fun _ => g2 (by omega)⟩
  | 5, _ => obtain ⟨q, rfl⟩ := inv_5 hs; exact ⟨g1, fun _ => g2 (by omega)⟩
  | 6, _ =>
    rcases inv_6 hs with ⟨q, q2, rfl⟩ | ⟨q, rfl⟩ | ⟨q, rfl⟩
    · exact ⟨pu (p, p) (show p ≠ hd by omega), fun _ => g2 (by omega)⟩
    · exact ⟨fun b hb => g1 b (pop_mem hb), fun _ => g2 (by omega)⟩
    · exact ⟨fun b hb => g1 b (pop_mem hb), fun _ => g2 (by omega)⟩
  | 7, _ | 8, _ =>
    rcases inv_78 (by omega) hs with ⟨w1, w2, w3, rfl⟩ | ⟨_, ⟨w1, rfl⟩ | ⟨b, l', _, rfl, w2, w3, rfl⟩ | ⟨b, l', _, rfl, w2, w3, w4, w5, rfl⟩ | ⟨b, l', _, rfl, w2, w3, w4, rfl⟩⟩
    · exact ⟨g1, fun _ => g2 (by omega)⟩
    · exact ⟨g1, fun _ => g2 (by omega)⟩
    · exact ⟨fun b hb => g1 b (List.mem_cons_of_mem _ (pop_mem hb)), fun _ => g2 (by omega)⟩
    · exact ⟨pu (h, p) (g2 (by omega)), fun z => by omega⟩
    · exact ⟨g1, fun z => by omega⟩
