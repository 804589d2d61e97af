def lno (c : Int32) : Nat := (c - 65).toNatClampNeg
theorem lno_s {c : Int32} (h : isL c) : c - 65 = nI (lno c) ∧ lno c < 26 ∧ c = nI (65 + lno c) := by
  have h1 : (c - 65).toInt = c.toInt - 65 := i_sub 65 rfl (by omega) (by omega)
  have h2 : lno c = (c.toInt - 65).toNat := by
    unfold lno
    rw [Int32.toNatClampNeg, h1]
  have h3 : lno c < 26 := by omega
  refine ⟨Int32.toInt_inj.mp ?_, h3, Int32.toInt_inj.mp ?_⟩
  · rw [h1, nI_toInt (by omega), h2]; omega
  · rw [nI_toInt (by omega), h2]; omega
theorem isLn {L : Nat} (h : L < 26) : f_GS_isLetterNumber (nI L) = 1 := by
  unfold f_GS_isLetterNumber
  rw [if_neg (nI_pos (by omega)), if_neg (show ¬ (26 : Int32) ≤ nI L from nI_ge (b := 26) h (by omega))]
abbrev PT : Type := Int32 × Int32 × (Nat → Int32) × (Nat → Int32)
noncomputable def pS (t : Nat → Int32) (p : Nat) (r : RS) (s : PT) : PT :=
  if r.2.1 = 0 then (s.1 ||| ((1 : Int32) <<< (nI (lno (t p)) &&& 31)), (if bt s.1 (lno (t p)) then 1 else s.2.1), upd s.2.2.1 (lno (t p)) (nI p), upd s.2.2.2 (lno (t p)) 0)
  else if (r.2.1 = 2 ∨ r.2.1 = 3) ∧ isL (t p) then (s.1, s.2.1, s.2.2.1, upd s.2.2.2 r.2.2.2.2.2.1.toNatClampNeg (s.2.2.2 r.2.2.2.2.2.1.toNatClampNeg ||| ((1 : Int32) <<< (nI (lno (t p)) &&& 31))))
  else s
noncomputable def pT (t : Nat → Int32) : Nat → PT
  | 0 => (0, 0, fun _ => 0, fun _ => 0)
  | p + 1 => pS t p (rr t p) (pT t p)
/-- the class's tables of a text, behind p signs -/
def TOK (T : Nat → Nat → Int32) (t : Nat → Int32) (p : Nat) : Prop :=
  (∀ q, q < p → t q = 125 → ((rr t q).2.1 = 2 ∨ (rr t q).2.1 = 3) → ∀ a l, (rr t q).1 = a :: l → T 3 q = nI a.1 ∧ T 4 a.1 = nI q) ∧
  (∀ q, q < p → ((rr t q).2.1 = 2 ∨ (rr t q).2.1 = 3) → t q ≠ 125 → t q ≠ 58 → T 2 q = nI ((rr t q).2.2.2.2.2.2 + 1)) ∧
  T 0 7 = (pT t p).1 ∧ T 0 8 = (pT t p).2.1 ∧ (∀ L, L < 26 → bt (pT t p).1 L = true → T 5 L = (pT t p).2.2.1 L ∧ T 6 L = (pT t p).2.2.2 L)
theorem stT_kk (S : CS) (k j i : Nat) (v : Int32) : (stT S k j i v).1 k = va_up (S.1 k) j (upd (S.1 k j) i v) := by
  show va_up S.1 k _ k = _
  simp [va_up]
theorem addP_k {S : CS} {k L : Nat} {v : Int32} (hL : L < 26) (hb : bl (S.1 k 0 8)) :
    (∀ j, 2 ≤ j → j ≤ 4 → (f_MT_addProcedure S k (nI L) v).1 k j = S.1 k j) ∧ (f_MT_addProcedure S k (nI L) v).1 k 0 7 = (S.1 k 0 7 ||| ((1 : Int32) <<< (nI L &&& 31))) ∧
    (f_MT_addProcedure S k (nI L) v).1 k 0 8 = (if bt (S.1 k 0 7) L then 1 else S.1 k 0 8) ∧ (f_MT_addProcedure S k (nI L) v).1 k 5 = upd (S.1 k 5) L v ∧ (f_MT_addProcedure S k (nI L) v).1 k 6 = upd (S.1 k 6) L 0 := by
  have key : ∀ w : Int32, (∀ j, 2 ≤ j → j ≤ 4 → (stT (stT (stT (stT S k 0 8 w) k 0 7 ((stT S k 0 8 w).1 k 0 7 ||| ((1 : Int32) <<< (nI L &&& 31)))) k 5 (nI L).toNatClampNeg v) k 6 (nI L).toNatClampNeg 0).1 k j = S.1 k j) ∧
      (stT (stT (stT (stT S k 0 8 w) k 0 7 ((stT S k 0 8 w).1 k 0 7 ||| ((1 : Int32) <<< (nI L &&& 31)))) k 5 (nI L).toNatClampNeg v) k 6 (nI L).toNatClampNeg 0).1 k 0 7 = (S.1 k 0 7 ||| ((1 : Int32) <<< (nI L &&& 31))) ∧
      (stT (stT (stT (stT S k 0 8 w) k 0 7 ((stT S k 0 8 w).1 k 0 7 ||| ((1 : Int32) <<< (nI L &&& 31)))) k 5 (nI L).toNatClampNeg v) k 6 (nI L).toNatClampNeg 0).1 k 0 8 = w ∧
      (stT (stT (stT (stT S k 0 8 w) k 0 7 ((stT S k 0 8 w).1 k 0 7 ||| ((1 : Int32) <<< (nI L &&& 31)))) k 5 (nI L).toNatClampNeg v) k 6 (nI L).toNatClampNeg 0).1 k 5 = upd (S.1 k 5) L v ∧
      (stT (stT (stT (stT S k 0 8 w) k 0 7 ((stT S k 0 8 w).1 k 0 7 ||| ((1 : Int32) <<< (nI L &&& 31)))) k 5 (nI L).toNatClampNeg v) k 6 (nI L).toNatClampNeg 0).1 k 6 = upd (S.1 k 6) L 0 := by
    intro w
    rw [nI_clamp (by omega)]
    refine ⟨fun j h2 h4 => ?_, ?_, ?_, ?_, ?_⟩
    · rw [stT_o (by omega), stT_o (by omega), stT_o (by omega), stT_o (by omega)]
    · rw [stT_o (by omega), stT_o (by omega), stT_s, upd_s, stT_s, upd_o (by omega)]
    · rw [stT_o (by omega), stT_o (by omega), stT_s, upd_o (by omega), stT_s, upd_s]
    · rw [stT_o (by omega), stT_s, stT_o (by omega), stT_o (by omega)]
    · rw [stT_s, stT_o (by omega), stT_o (by omega), stT_o (by omega)]
  have e : f_MT_addProcedure S k (nI L) v = stT (stT (stT (stT S k 0 8 (if bt (S.1 k 0 7) L then 1 else S.1 k 0 8)) k 0 7 ((stT S k 0 8 (if bt (S.1 k 0 7) L then 1 else S.1 k 0 8)).1 k 0 7 ||| ((1 : Int32) <<< (nI L &&& 31)))) k 5 (nI L).toNatClampNeg v) k 6 (nI L).toNatClampNeg 0 := by
    unfold f_MT_addProcedure
    rw [isLn hL, if_neg (show ¬ (1 : Int32) = 0 from by decide), bt_has _ hL]
    rcases hb with hb | hb
    · rw [if_pos hb, hb]
      cases bt (S.1 k 0 7) L
      · rfl
      · rfl
    · rw [if_neg (by rw [hb]; decide), hb]
      cases bt (S.1 k 0 7) L
      · rfl
      · rfl
  rw [e]
  exact key _
theorem addC_k {S : CS} {k L L2 : Nat} (hL : L < 26) (hL2 : L2 < 26) : f_MT_addCall S k (nI L) (nI L2) = stT S k 6 L (S.1 k 6 L ||| ((1 : Int32) <<< (nI L2 &&& 31))) := by
  unfold f_MT_addCall
  rw [isLn hL, isLn hL2, if_neg (show ¬ (1 : Int32) = 0 from by decide), if_neg (show ¬ (1 : Int32) = 0 from by decide), nI_clamp (by omega)]
theorem EB_bot {t : Nat → Int32} : ∀ {l : List (Nat × Nat)} (d : Nat), EB t l → l ≠ [] → isL (t (bot l d))
  | [], _, _, h => absurd rfl h
  | a :: l, d, h, _ => by
    cases l with
    | nil => exact kd_L.mpr (h.1.2.2.1.mpr rfl)
    | cons b l => exact EB_bot (l := b :: l) a.1 h.2 (List.cons_ne_nil _ _)
theorem EP_bot {t : Nat → Int32} : ∀ {l : List (Nat × Nat)} (d : Nat), EP t l → isL (t (bot l d))
  | [], _, h => absurd h id
  | a :: l, d, h => by
    rcases h with h | h
    · exact EB_bot d h (List.cons_ne_nil _ _)
    · exact EP_bot a.1 h.2.2
theorem GN_run {t : Nat → Int32} {q : Nat} {a : Nat × Nat} {l : List (Nat × Nat)} (hq : t q = 125) (he : (rr t q).2.1 = 2 ∨ (rr t q).2.1 = 3) (hs : (rr t q).1 = a :: l) : ∀ {p : Nat} {r : RS}, q < p → runR t p = some r → GN a.1 r
  | 0, _, h, _ => by omega
  | p + 1, r, h, hr => by
    obtain ⟨r1, h1, h2⟩ := runR_p hr
    have hW := WS_run h1
    by_cases w : q = p
    · subst w
      have e := rr_of h1
      rw [e] at he hs
      obtain ⟨stk, e', hh, x, g, pr, st⟩ := r1
      have hs : stk = a :: l := hs
      subst hs
      have hX := WX_run h1
      rcases inv_23 he h2 with ⟨w1, w2, rfl⟩ | ⟨b, l', w1, w2, rfl⟩ | ⟨w1, w2, w3⟩
      · rw [hq] at w2; exact absurd w2 (by decide)
      · cases w2
        refine ⟨fun b hb => Nat.ne_of_lt (hX.1.1.1 b hb), fun z => ?_⟩
        revert z; split
        · omega
        · split <;> omega
      · exact absurd hq w2
    · have ih := GN_run hq he hs (show q < p by omega) h1
      have ha : a.1 < q := by
        obtain ⟨r2, h3⟩ := runR_le h1 (show q ≤ p by omega)
        have hW2 := WS_run h3
        rw [rr_of h3] at hs
        obtain ⟨stk, e', hh, x, g, pr, st⟩ := r2
        have hs : stk = a :: l := hs
        subst hs
        exact (hW2.1 a List.mem_cons_self).1
      exact GN_step hW h2 (by omega) ih
theorem TOK_step {t : Nat → Int32} {S S' : CS} {k p : Nat} {r r' : RS} (hr : runR t p = some r) (hs : stepR t p r = some r') (hb : bl (S.1 k 0 8)) (hS : S'.1 = (tb t p k S r).1) (h : TOK (S.1 k) t p) : TOK (S'.1 k) t (p + 1) ∧ bl (S'.1 k 0 8) := by
  have hW := WS_run hr
  have hX := WX_run hr
  have er := rr_of hr
  rw [hS]
  obtain ⟨stk, e, hh, x, g, pr, st⟩ := r
  obtain ⟨t1, t2, t3, t4, t5⟩ := h
  have a5 : e ≤ 8 := hW.2.2.2.2.1
  have lt1 : ∀ {q}, q < p + 1 → q ≠ p → q < p := fun h1 h2 => by omega
  have same : ∀ (T : CS), T.1 = S.1 → ¬ e = 0 → (¬ (e = 2 ∨ e = 3)) ∨ (e = 3 ∧ t p = 58) → TOK (T.1 k) t (p + 1) ∧ bl (T.1 k 0 8) := by
    intro T hT n0 n2
    rw [hT]
    have ep : pT t (p + 1) = pT t p := by
      show pS t p (rr t p) (pT t p) = _
      rw [er]
      unfold pS
      rw [if_neg n0, if_neg]
      intro z
      rcases n2 with n2 | n2
      · exact n2 z.1
      · rw [n2.2] at z; exact absurd z.2 (by decide)
    refine ⟨⟨fun q hq h1 h2 a l h3 => ?_, fun q hq h1 h2 h3 => ?_, by rw [ep]; exact t3, by rw [ep]; exact t4, by rw [ep]; exact t5⟩, hb⟩
    · by_cases w : q = p
      · subst w
        rw [er] at h2
        rcases n2 with n2 | n2
        · exact absurd h2 n2
        · rw [h1] at n2; exact absurd n2.2 (by decide)
      · exact t1 q (lt1 hq w) h1 h2 a l h3
    · by_cases w : q = p
      · subst w
        rw [er] at h1
        rcases n2 with n2 | n2
        · exact absurd h1 n2
        · exact absurd n2.2 h3
      · exact t2 q (lt1 hq w) h1 h2 h3
  by_cases e0 : e = 0
  · subst e0
    obtain ⟨hL, rfl⟩ := inv_0 hs
    obtain ⟨l1, l2, l3⟩ := lno_s hL
    have etb : tb t p k S (stk, 0, hh, x, g, pr, st) = f_MT_addProcedure S k (nI (lno (t p))) (nI p) := by
      simp only [tb, if_true]
      rw [l1]
    rw [etb]
    obtain ⟨c1, c2, c3, c4, c5⟩ := addP_k (S := S) (k := k) (v := nI p) l2 hb
    have ep : pT t (p + 1) = ((pT t p).1 ||| ((1 : Int32) <<< (nI (lno (t p)) &&& 31)), (if bt (pT t p).1 (lno (t p)) then 1 else (pT t p).2.1), upd (pT t p).2.2.1 (lno (t p)) (nI p), upd (pT t p).2.2.2 (lno (t p)) 0) := by
      show pS t p (rr t p) (pT t p) = _
      rw [er]
      unfold pS
      rw [if_pos rfl]
    refine ⟨⟨fun q hq h1 h2 a l h3 => ?_, fun q hq h1 h2 h3 => ?_, ?_, ?_, fun L hL2 hbt => ?_⟩, ?_⟩
    · rw [c1 3 (by omega) (by omega), c1 4 (by omega) (by omega)]
      by_cases w : q = p
      · subst w
        rw [er] at h2
        exact absurd h2 (by simp)
      · exact t1 q (lt1 hq w) h1 h2 a l h3
    · rw [c1 2 (by omega) (by omega)]
      by_cases w : q = p
      · subst w
        rw [er] at h1
        exact absurd h1 (by simp)
      · exact t2 q (lt1 hq w) h1 h2 h3
    · rw [c2, t3, ep]
    · rw [c3, t3, t4, ep]
    · rw [c4, c5, ep]
      rw [ep] at hbt
      by_cases w : L = lno (t p)
      · subst w
        simp [upd]
      · have hbt : bt ((pT t p).1 ||| ((1 : Int32) <<< (nI (lno (t p)) &&& 31))) L = true := hbt
        rw [bt_or, bt_1 l2] at hbt
        have : bt (pT t p).1 L = true := by
          rw [Bool.or_eq_true] at hbt
          rcases hbt with z | z
          · exact z
          · simp at z; exact absurd z.symm w
        have w2 := t5 L hL2 this
        show upd _ _ _ _ = upd _ _ _ _ ∧ upd _ _ _ _ = upd _ _ _ _
        rw [upd_o w, upd_o w, upd_o w, upd_o w]
        exact w2
    · rw [c3]
      split
      · exact Or.inr rfl
      · exact hb
  · by_cases e2 : e = 2 ∨ e = 3
    · have hne : stk ≠ [] := hW.2.2.2.2.2.2.2.2.2.1 (by omega)
      have hEB : EB t stk := hW.2.2.2.2.2.1 (by omega)
      rcases inv_23 e2 hs with ⟨w1, w2, rfl⟩ | ⟨a, l, w1, rfl, rfl⟩ | ⟨w1, w2, w3⟩
      · refine same _ ?_ e0 (Or.inr ⟨w1, w2⟩)
        simp only [tb, if_neg e0, if_pos (And.intro w1 w2)]
      · have n3 : ¬ (e = 3 ∧ t p = 58) := fun z => by rw [w1] at z; exact absurd z.2 (by decide)
        have etb : tb t p k S (a :: l, e, hh, x, g, pr, st) = stT (stT S k 3 p (nI a.1)) k 4 a.1 (nI p) := by
          simp only [tb, if_neg e0, if_neg n3, if_pos e2, if_pos w1]
        rw [etb]
        have ep : pT t (p + 1) = pT t p := by
          show pS t p (rr t p) (pT t p) = _
          rw [er]
          unfold pS
          rw [if_neg e0, if_neg]
          intro z
          rw [w1] at z; exact absurd z.2 (by decide)
        have o0 : (stT (stT S k 3 p (nI a.1)) k 4 a.1 (nI p)).1 k 0 = S.1 k 0 := by rw [stT_o (by omega), stT_o (by omega)]
        have o2 : (stT (stT S k 3 p (nI a.1)) k 4 a.1 (nI p)).1 k 2 = S.1 k 2 := by rw [stT_o (by omega), stT_o (by omega)]
        have o5 : (stT (stT S k 3 p (nI a.1)) k 4 a.1 (nI p)).1 k 5 = S.1 k 5 := by rw [stT_o (by omega), stT_o (by omega)]
        have o6 : (stT (stT S k 3 p (nI a.1)) k 4 a.1 (nI p)).1 k 6 = S.1 k 6 := by rw [stT_o (by omega), stT_o (by omega)]
        have o3 : (stT (stT S k 3 p (nI a.1)) k 4 a.1 (nI p)).1 k 3 = upd (S.1 k 3) p (nI a.1) := by rw [stT_o (by omega), stT_s]
        have o4 : (stT (stT S k 3 p (nI a.1)) k 4 a.1 (nI p)).1 k 4 = upd (S.1 k 4) a.1 (nI p) := by rw [stT_s, stT_o (by omega)]
        rw [TOK, o0, o2, o3, o4, o5, o6, ep]
        refine ⟨⟨fun q hq h1 h2 b l' h3 => ?_, fun q hq h1 h2 h3 => ?_, t3, t4, t5⟩, hb⟩
        · by_cases w : q = p
          · subst w
            rw [er] at h3
            have h3 : a :: l = b :: l' := h3
            cases h3
            rw [upd_s, upd_s]
            exact ⟨rfl, rfl⟩
          · have hg := GN_run h1 h2 h3 (lt1 hq w) hr
            rw [upd_o w, upd_o (Ne.symm (hg.1 a List.mem_cons_self))]
            exact t1 q (lt1 hq w) h1 h2 b l' h3
        · by_cases w : q = p
          · subst w; exact absurd w1 h2
          · exact t2 q (lt1 hq w) h1 h2 h3
      · have n3 : ¬ (e = 3 ∧ t p = 58) := fun z => w1 z.2
        obtain ⟨m1, m2, m3⟩ := lno_s (EB_bot 0 hEB hne)
        have hpr : pr = nI (lno (t (bot stk 0))) := (hX.2.2.2.2.1 hne).trans m1
        have fin : ∀ (S1 : CS) (P1 : PT), pT t (p + 1) = P1 → P1.1 = (pT t p).1 → P1.2.1 = (pT t p).2.1 → P1.2.2.1 = (pT t p).2.2.1 → S1.1 k 0 = S.1 k 0 → S1.1 k 3 = S.1 k 3 → S1.1 k 4 = S.1 k 4 → S1.1 k 5 = S.1 k 5 → S1.1 k 2 = S.1 k 2 →
            (∀ L, L < 26 → bt (pT t p).1 L = true → S1.1 k 6 L = P1.2.2.2 L) → TOK ((stT S1 k 2 p (nI (st + 1))).1 k) t (p + 1) ∧ bl ((stT S1 k 2 p (nI (st + 1))).1 k 0 8) := by
          intro S1 P1 hP p1 p2 p3 s0 s3 s4 s5 s2 s6
          have o0 : (stT S1 k 2 p (nI (st + 1))).1 k 0 = S.1 k 0 := by rw [stT_o (by omega), s0]
          have o3 : (stT S1 k 2 p (nI (st + 1))).1 k 3 = S.1 k 3 := by rw [stT_o (by omega), s3]
          have o4 : (stT S1 k 2 p (nI (st + 1))).1 k 4 = S.1 k 4 := by rw [stT_o (by omega), s4]
          have o5 : (stT S1 k 2 p (nI (st + 1))).1 k 5 = S.1 k 5 := by rw [stT_o (by omega), s5]
          have o6 : (stT S1 k 2 p (nI (st + 1))).1 k 6 = S1.1 k 6 := by rw [stT_o (by omega)]
          have o2 : (stT S1 k 2 p (nI (st + 1))).1 k 2 = upd (S.1 k 2) p (nI (st + 1)) := by rw [stT_s, s2]
          rw [TOK, o0, o2, o3, o4, o5, o6, hP, p1, p2, p3]
          refine ⟨⟨fun q hq h1 h2 b l' h3 => ?_, fun q hq h1 h2 h3 => ?_, t3, t4, fun L hL hbt => ⟨(t5 L hL hbt).1, s6 L hL hbt⟩⟩, hb⟩
          · by_cases w : q = p
            · subst w; exact absurd h1 w2
            · exact t1 q (lt1 hq w) h1 h2 b l' h3
          · by_cases w : q = p
            · subst w
              rw [upd_s, er]
            · rw [upd_o w]
              exact t2 q (lt1 hq w) h1 h2 h3
        have etb : tb t p k S (stk, e, hh, x, g, pr, st) = stT (if isL (t p) then f_MT_addCall S k pr (t p - 65) else S) k 2 p (nI (st + 1)) := by
          simp only [tb, if_neg e0, if_neg n3, if_pos e2, if_neg w2]
        rw [etb]
        by_cases q2 : isL (t p)
        · obtain ⟨l1, l2, l3⟩ := lno_s q2
          rw [if_pos q2, hpr, l1, addC_k m2 l2]
          refine fin _ ((pT t p).1, (pT t p).2.1, (pT t p).2.2.1, upd (pT t p).2.2.2 (lno (t (bot stk 0))) ((pT t p).2.2.2 (lno (t (bot stk 0))) ||| ((1 : Int32) <<< (nI (lno (t p)) &&& 31)))) ?_ rfl rfl rfl (stT_o (by omega)) (stT_o (by omega)) (stT_o (by omega)) (stT_o (by omega)) (stT_o (by omega)) ?_
          · show pS t p (rr t p) (pT t p) = _
            rw [er]
            unfold pS
            rw [if_neg e0, if_pos ⟨e2, q2⟩]
            show (_, _, _, upd _ pr.toNatClampNeg (_ ||| _)) = _
            rw [hpr, nI_clamp (by omega)]
          · intro L hL hbt
            rw [stT_s]
            show upd _ _ _ _ = upd _ _ _ _
            by_cases w : L = lno (t (bot stk 0))
            · subst w
              rw [upd_s, upd_s, (t5 _ hL hbt).2]
            · rw [upd_o w, upd_o w]
              exact (t5 L hL hbt).2
        · rw [if_neg q2]
          refine fin S (pT t p) ?_ rfl rfl rfl rfl rfl rfl rfl rfl (fun L hL hbt => (t5 L hL hbt).2)
          show pS t p (rr t p) (pT t p) = _
          rw [er]
          unfold pS
          rw [if_neg e0, if_neg (fun z => q2 z.2)]
    · refine same _ ?_ e0 (Or.inl e2)
      have n3 : ¬ (e = 3 ∧ t p = 58) := fun z => e2 (Or.inr z.1)
      simp only [tb, if_neg e0, if_neg n3, if_neg e2]
theorem TOK_run {S : CS} {k n : Nat} (hn : S.1 k 0 6 = nI n) (h60 : n ≤ 60) (h0 : RC S r_0) (h7 : S.1 k 0 7 = 0) (h8 : S.1 k 0 8 = 0) : ∀ {p : Nat} {r : RS}, p ≤ n → runR (S.1 k 1) p = some r → TOK ((trS S k p).1 k) (S.1 k 1) p ∧ bl ((trS S k p).1 k 0 8)
  | 0, r, _, _ => ⟨⟨fun q hq => absurd hq (by omega), fun q hq => absurd hq (by omega), h7, h8, fun L _ hb => by
      have hb : bt 0 L = true := hb
      rw [bt_0] at hb; cases hb⟩, Or.inl h8⟩
  | p + 1, r, hp, h => by
    obtain ⟨r1, h1, h2⟩ := runR_p h
    obtain ⟨i1, i2⟩ := TOK_run hn h60 h0 h7 h8 (by omega) h1
    exact TOK_step h1 h2 i2 ((trS_ok hn h60 h0 (by omega) h1).2 r h) i1
/-- the class reads text k: the fault is the spec's, and a whole text's tables are right -/
theorem fau_t {N : Nat} {S : CS} {k n : Nat} (hI : IC N S) (hk : k < 3) (hn : S.1 k 0 6 = nI n) (h60 : n ≤ 60) : FaultIs (S.1 k 1) n (f_RD_faultOf S k).1 ∧ FR k S (f_RD_faultOf S k).2 ∧ (WT (S.1 k 1) n → TOK ((f_RD_faultOf S k).2.1 k) (S.1 k 1) n) := by
  obtain ⟨n', hn', h60', hF, hS⟩ := fau_s hI hk
  have : n' = n := (nI_eq (by omega) (by omega)).mp (hn'.symm.trans hn)
  subst this
  refine ⟨hF, fr_fau S k, fun hw => ?_⟩
  have hr := hw.run (Nat.le_refl n')
  rw [hS _ hr]
  have fr : FR k S (rs_ S k) := ((fr_fgt S k).tr (FR.R 1 0)).tr (FR.R 2 0)
  have h0 : RC (rs_ S k) r_0 := ⟨by unfold rs_; simp [stR_at]; rfl, by decide, trivial, by unfold rs_; simp [stR_at]; rfl, by decide, fun z => absurd rfl z, fun z => by omega, fun z => by omega⟩
  have h7 : (rs_ S k).1 k 0 7 = 0 := by
    show (stT (stT S k 0 7 0) k 0 8 0).1 k 0 7 = 0
    rw [stT_s, upd_o (by omega), stT_s, upd_s]
  have h8 : (rs_ S k).1 k 0 8 = 0 := by
    show (stT (stT S k 0 7 0) k 0 8 0).1 k 0 8 = 0
    rw [stT_s, upd_s]
  have q := TOK_run (S := rs_ S k) (k := k) (n := n') (fr.2.2.2.1.trans hn) h60 h0 h7 h8 (Nat.le_refl n') (by rw [fr.2.2.1]; exact hr)
  rw [fr.2.2.1] at q
  exact q.1
