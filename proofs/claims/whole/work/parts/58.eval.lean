/-- what working out at level d leaves alone -/
def WFr (d m : Nat) (M M' : MS) : Prop := (∀ c, c ≠ 0 → c < 15 ∨ 18 < c → M' c = M c) ∧ (∀ i, i ≠ 28 → M' 0 i = M 0 i) ∧ (∀ j, j < d → M' 15 j = M 15 j) ∧ (∀ j, j < d → M' 16 j = M 16 j) ∧ (∀ j, j ≤ d → M' 17 j = M 17 j) ∧ (∀ j, j < m → M' 18 j = M 18 j)
theorem WFr.tr {d m : Nat} {M M1 M2 : MS} (h : WFr d m M M1) (g : WFr d m M1 M2) : WFr d m M M2 := ⟨fun c a b => (g.1 c a b).trans (h.1 c a b), fun i a => (g.2.1 i a).trans (h.2.1 i a), fun j a => (g.2.2.1 j a).trans (h.2.2.1 j a), fun j a => (g.2.2.2.1 j a).trans (h.2.2.2.1 j a), fun j a => (g.2.2.2.2.1 j a).trans (h.2.2.2.2.1 j a), fun j a => (g.2.2.2.2.2 j a).trans (h.2.2.2.2.2 j a)⟩
theorem WFr.dn {d m d' m' : Nat} {M M1 : MS} (h : WFr d' m' M M1) (hd : d ≤ d') (hm : m ≤ m') : WFr d m M M1 := ⟨h.1, h.2.1, fun j a => h.2.2.1 j (by omega), fun j a => h.2.2.2.1 j (by omega), fun j a => h.2.2.2.2.1 j (by omega), fun j a => h.2.2.2.2.2 j (by omega)⟩
theorem WFr.tx {d m k n : Nat} {M M' : MS} {t : Nat → Int32} (h : WFr d m M M') (hT : TX M k n t) : TX M' k n t := ⟨by rw [h.1 2 (by decide) (by omega)]; exact hT.1, fun i hi => by rw [h.1 1 (by decide) (by omega)]; exact hT.2 i hi⟩
theorem WFr.o15 (M : MS) (d m : Nat) (u v : Int32) : WFr d m M (stM (stM M 0 28 u) 15 d v) := ⟨fun c a b => by rw [stM_o (by omega), stM_o a], fun i a => by rw [stM_o (by decide), stM_s, upd_o a], fun j a => by rw [stM_s, upd_o (by omega), stM_o (by decide)], fun j _ => by rw [stM_o (by decide), stM_o (by decide)], fun j _ => by rw [stM_o (by decide), stM_o (by decide)], fun j _ => by rw [stM_o (by decide), stM_o (by decide)]⟩
theorem WFr.o16 (M : MS) (d m : Nat) (v : Int32) : WFr d m M (stM M 16 d v) := ⟨fun c a b => by rw [stM_o (by omega)], fun i a => by rw [stM_o (by decide)], fun j a => by rw [stM_o (by decide)], fun j a => by rw [stM_s, upd_o (by omega)], fun j _ => by rw [stM_o (by decide)], fun j _ => by rw [stM_o (by decide)]⟩
theorem WFr.o18 (M : MS) (d m : Nat) (u v : Int32) : WFr d m M (stM (stM M 18 m u) 0 28 v) := ⟨fun c a b => by rw [stM_o a, stM_o (by omega)], fun i a => by rw [stM_s, upd_o a, stM_o (by decide)], fun j a => by rw [stM_o (by decide), stM_o (by decide)], fun j a => by rw [stM_o (by decide), stM_o (by decide)], fun j _ => by rw [stM_o (by decide), stM_o (by decide)], fun j a => by rw [stM_o (by decide), stM_s, upd_o (by omega)]⟩
theorem WFr.o17 (M : MS) (d m : Nat) (u v : Int32) : WFr d m M (stM (stM M 17 (d + 1) u) 16 (d + 1) v) := ⟨fun c a b => by rw [stM_o (by omega), stM_o (by omega)], fun i a => by rw [stM_o (by decide), stM_o (by decide)], fun j a => by rw [stM_o (by decide), stM_o (by decide)], fun j a => by rw [stM_s, upd_o (by omega), stM_o (by decide)], fun j a => by rw [stM_o (by decide), stM_s, upd_o (by omega)], fun j a => by rw [stM_o (by decide), stM_o (by decide)]⟩
/-- both work an operand out alike -/
def OPD (S : CS) (k n : Nat) (t : Nat → Int32) (p1 : Int32) (D : Nat) : Prop := ∀ (i : Nat) (s : List (Nat × Nat)) (h : Nat) (x : Int32) (g : Nat) (pr : Int32) (st : Nat) (M : MS) (d b c : Nat), i < n → rr t i = (s, 6, h, x, g, pr, st) → 6 ≤ D + exl t s → TX M k n t → (∀ j, j < 8 → M 12 j = S.2 8 j) → M 0 28 = nI (b + c) → M 17 d = nI b → s.length = (popP t s).length + c → b + d = exl t (popP t s) →
  ∃ v j e g' M' q, f_CA_operand D (stR S 7 1 (nI i)) k (nI (exl t s)) = (v, stR S 7 1 (nI j)) ∧ i < j ∧ j < n ∧ rr t j = (popP t s, e, h, x, g', pr, st) ∧ (e = 7 ∨ e = 8) ∧ (e = 7 → ¬ isD (t j)) ∧ q ≤ j - i ∧ (∀ f K, q_GM_work_26 (f + q) M p1 (nI (60 * k + i)) 1 (nI d) K = q_GM_work_26 f M' p1 (nI (60 * k + j)) 0 (nI d) K) ∧ WFr d (b + c) M M' ∧ M' 16 d = M 16 d ∧ M' 0 28 = nI b ∧ M' 15 d = f_GM_apply (M 16 d) (M 15 d) (apB (M 18) b c v)
def EXP (S : CS) (k n : Nat) (t : Nat → Int32) (p1 : Int32) (D : Nat) : Prop := ∀ (i : Nat) (s : List (Nat × Nat)) (h : Nat) (x : Int32) (g : Nat) (pr : Int32) (st : Nat) (M : MS) (d m : Nat), i < n → rr t i = (s, 6, h, x, g, pr, st) → 6 ≤ D + exl t s → TX M k n t → (∀ j, j < 8 → M 12 j = S.2 8 j) → M 0 28 = nI m → M 17 d = nI m → M 16 d = 0 → popP t s = s → m + d = exl t s →
  ∃ v j e g' M' q, f_CA_exprO (fun S => f_CA_operand D S k (nI (exl t s))) (stR S 7 1 (nI i)) k = (v, stR S 7 1 (nI j)) ∧ i < j ∧ j < n ∧ rr t j = (s, e, h, x, g', pr, st) ∧ (e = 7 ∨ e = 8) ∧ ¬ isO (t j) ∧ (e = 7 → ¬ isD (t j)) ∧ q ≤ j - i ∧ (∀ f K, q_GM_work_26 (f + q) M p1 (nI (60 * k + i)) 1 (nI d) K = q_GM_work_26 f M' p1 (nI (60 * k + j)) 0 (nI d) K) ∧ WFr d m M M' ∧ M' 0 28 = nI m ∧ M' 15 d = v
theorem exl_le {t : Nat → Int32} {n i : Nat} (hW : WT t n) (hi : i ≤ n) {s : List (Nat × Nat)} {h : Nat} {x : Int32} {g : Nat} {pr : Int32} {st e : Nat} (he : 6 ≤ e) (hr : rr t i = (s, e, h, x, g, pr, st)) : exl t s + 1 ≤ s.length ∧ s.length ≤ 6 := by
  have := hW.ws hi
  rw [hr] at this
  obtain ⟨a1, a2, a3, a4, a5, a6, a7, a8, a9, a10, a11, a12, a13⟩ := this
  have := (EP_blk (a7 he)).2
  have := List.length_pos_iff.mpr this
  have := blk_len t s
  unfold exl
  omega
theorem exp_of {S : CS} {k n : Nat} {t : Nat → Int32} {p1 : Int32} {D : Nat} (hk : k < 3) (hW : WT t n) (hn : S.1 k 0 6 = nI n) (ht : S.1 k 1 = t) (hO : OPD S k n t p1 D) : EXP S k n t p1 D := by
  have h60 := hW.1
  intro i s h x g pr st M d m hi hr hD hT hV h0 h17 h16 hs hmd
  have loop : ∀ (f y j e g' : Nat) (M : MS) (v : Int32), j < n → rr t j = (s, e, h, x, g', pr, st) → (e = 7 ∨ e = 8) → (e = 7 → ¬ isD (t j)) → y ≤ j → f + y = 61 → TX M k n t → (∀ j, j < 8 → M 12 j = S.2 8 j) → M 0 28 = nI m → M 17 d = nI m → M 15 d = v →
      ∃ v' j' e g' M' q, q_CA_expression_10 f (fun S => f_CA_operand D S k (nI (exl t s))) (stR S 7 1 (nI j)) k (nI y) v = (v', stR S 7 1 (nI j')) ∧ j ≤ j' ∧ j' < n ∧ rr t j' = (s, e, h, x, g', pr, st) ∧ (e = 7 ∨ e = 8) ∧ ¬ isO (t j') ∧ (e = 7 → ¬ isD (t j')) ∧ q ≤ j' - j ∧ (∀ f K, q_GM_work_26 (f + q) M p1 (nI (60 * k + j)) 0 (nI d) K = q_GM_work_26 f M' p1 (nI (60 * k + j')) 0 (nI d) K) ∧ WFr d m M M' ∧ M' 0 28 = nI m ∧ M' 15 d = v' := by
    intro f
    induction f with
    | zero => intro y j e g' M v hj hr he hd hy hf; omega
    | succ f ih =>
      intro y j e g' M v hj hr he hd hy hf hT hV h0 h17 h15
      have hex := exl_le hW (Nat.le_of_lt hj) (by omega) hr
      have e1 : q_CA_expression_10 (f + 1) (fun S => f_CA_operand D S k (nI (exl t s))) (stR S 7 1 (nI j)) k (nI y) v = if f_GS_operationOf (t j) = -1 then (v, stR S 7 1 (nI j)) else q_CA_expression_10 f (fun S => f_CA_operand D S k (nI (exl t s))) (f_CA_operand D (stR S 7 1 (nI (j + 1))) k (nI (exl t s))).2 k (nI (y + 1)) (f_GS_worked (f_GS_operationOf (t j)) v (f_CA_operand D (stR S 7 1 (nI (j + 1))) k (nI (exl t s))).1) := by
        rw [q_CA_expression_10, if_neg (show ¬ (60 : Int32) ≤ nI y from nI_ge (b := 60) (by omega) (by omega))]
        dsimp only
        rw [cur_s, sgn (S := stR S 7 1 (nI j)) hn h60 hj, cur_c, nI_1, nI_1]
        show (if f_GS_operationOf (S.1 k 1 j) = -1 then _ else q_CA_expression_10 f _ _ k _ (f_GS_worked (f_GS_operationOf (S.1 k 1 j)) _ _)) = _
        rw [ht]
      rw [e1]
      by_cases q : isO (t j)
      · have hst := hW.step hj
        rw [hr] at hst
        have hr1 : rr t (j + 1) = (s, 6, h, x, g', pr, st) := by
          rcases inv_78 he hst with ⟨_, w2, _⟩ | ⟨_, ⟨_, w⟩ | ⟨_, _, w, _⟩ | ⟨_, _, w, _⟩ | ⟨_, _, w, _⟩⟩
          · rcases q with q | q | q | q | q | q | q <;> (rw [q] at w2; exact absurd w2 (by decide))
          · exact w
          · exact absurd q w
          · exact absurd q w
          · exact absurd q w
        have hj1 : j + 1 < n := hW.lt (by omega) (by rw [hr1]; show (6 : Nat) ≠ 0; decide)
        have r12 : stM M 16 d (t j) 12 = M 12 := stM_o (by decide)
        have r17 : stM M 16 d (t j) 17 = M 17 := stM_o (by decide)
        have r00 : stM M 16 d (t j) 0 = M 0 := stM_o (by decide)
        have w1 := WFr.o16 M d m (t j)
        obtain ⟨v2, j2, e2, g2, M2, q2, b1, b2, b3, b4, b5, b6, b7, b8, b9, b10, b11, b12⟩ := hO (j + 1) s h x g' pr st (stM M 16 d (t j)) d m 0 hj1 hr1 hD (w1.tx hT) (fun a ha => by rw [r12]; exact hV a ha) (by rw [r00]; exact h0) (by rw [r17]; exact h17) (by rw [hs]; rfl) (by rw [hs]; exact hmd)
        rw [hs] at b4
        have b12 : M2 15 d = f_GS_worked (f_GS_operationOf (t j)) v v2 := by
          rw [b12, stM_s, upd_s, stM_o (by decide), h15, app_w q]; rfl
        have w2 : WFr d m M M2 := w1.tr b9
        obtain ⟨v3, j3, e3, g3, M3, q3, c1, c2, c3, c4, c5, c6, c7, c8, c9, c10, c11, c12⟩ := ih (y + 1) j2 e2 g2 M2 _ b3 b4 b5 b6 (by omega) (by omega) (w2.tx hT) (fun a ha => by rw [w2.1 12 (by decide) (by omega)]; exact hV a ha) b11 (by rw [w2.2.2.2.2.1 d (Nat.le_refl _)]; exact h17) b12
        refine ⟨v3, j3, e3, g3, M3, q3 + q2 + 1, ?_, by omega, c3, c4, c5, c6, c7, by omega, fun f K => ?_, w2.tr c10, c11, c12⟩
        · rw [if_neg (fun z => (gs_O _).mp z q), b1]
          exact c1
        · rw [show f + (q3 + q2 + 1) = (f + q3 + q2) + 1 by omega, ww_a hk h60 hj hT (by omega) q, b8, c9]
      · refine ⟨v, j, e, g', M, 0, ?_, Nat.le_refl _, hj, hr, he, q, hd, by omega, fun f K => rfl, ⟨fun _ _ _ => rfl, fun _ _ => rfl, fun _ _ => rfl, fun _ _ => rfl, fun _ _ => rfl, fun _ _ => rfl⟩, h0, h15⟩
        rw [if_pos ((gs_O _).mpr q)]
  obtain ⟨v2, j2, e2, g2, M2, q2, b1, b2, b3, b4, b5, b6, b7, b8, b9, b10, b11, b12⟩ := hO i s h x g pr st M d m 0 hi hr hD hT hV h0 h17 (by rw [hs]; rfl) (by rw [hs]; exact hmd)
  rw [hs] at b4
  have b12 : M2 15 d = v2 := by rw [b12, h16, app_0]; rfl
  obtain ⟨v3, j3, e3, g3, M3, q3, c1, c2, c3, c4, c5, c6, c7, c8, c9, c10, c11, c12⟩ := loop (fz 61) 0 j2 e2 g2 M2 v2 b3 b4 b5 b6 (by omega) (by rw [fz_eq]) (b9.tx hT) (fun a ha => by rw [b9.1 12 (by decide) (by omega)]; exact hV a ha) b11 (by rw [b9.2.2.2.2.1 d (Nat.le_refl _)]; exact h17) b12
  refine ⟨v3, j3, e3, g3, M3, q3 + q2, ?_, by omega, c3, c4, c5, c6, c7, by omega, fun f K => ?_, b9.tr c10, c11, c12⟩
  · unfold f_CA_exprO
    dsimp only
    rw [b1]
    exact c1
  · rw [show f + (q3 + q2) = (f + q3) + q2 by omega, b8, c9]
theorem opd_all {S : CS} {k n : Nat} {t : Nat → Int32} {p1 : Int32} (hk : k < 3) (hW : WT t n) (hn : S.1 k 0 6 = nI n) (ht : S.1 k 1 = t) : ∀ D, OPD S k n t p1 D := by
  intro D
  have h60 := hW.1
  induction D with
  | zero =>
    intro i s h x g pr st M d b c hi hr hD
    have := exl_le hW (Nat.le_of_lt hi) (by omega) hr
    omega
  | succ D ih =>
    intro i s h x g pr st M d b c hi hr hD hT hV h0 h17 hs hbd
    have hex := exl_le hW (Nat.le_of_lt hi) (by omega) hr
    have hep := exl_pop t s hs
    have hst := hW.step hi
    rw [hr] at hst
    have e1 : f_CA_operand (D + 1) (stR S 7 1 (nI i)) k (nI (exl t s)) = if f_GS_isDigit (t i) = 0 then (if f_GS_isVariable (t i) = 0 then (if t i = 126 then ((f_CA_operand D (stR S 7 1 (nI (i + 1))) k (nI (exl t s + 1))).1 ^^^ (-1), (f_CA_operand D (stR S 7 1 (nI (i + 1))) k (nI (exl t s + 1))).2) else if t i = 45 then (-(f_CA_operand D (stR S 7 1 (nI (i + 1))) k (nI (exl t s + 1))).1, (f_CA_operand D (stR S 7 1 (nI (i + 1))) k (nI (exl t s + 1))).2) else ((f_CA_exprO (fun S => f_CA_operand D S k (nI (exl t s + 1))) (stR S 7 1 (nI (i + 1))) k).1, stR (f_CA_exprO (fun S => f_CA_operand D S k (nI (exl t s + 1))) (stR S 7 1 (nI (i + 1))) k).2 7 1 ((f_CA_exprO (fun S => f_CA_operand D S k (nI (exl t s + 1))) (stR S 7 1 (nI (i + 1))) k).2.2 7 1 + 1))) else (S.2 8 (t i - 97).toNatClampNeg, stR S 7 1 (nI (i + 1)))) else ((f_CA_number (stR S 7 1 (nI i)) k).1, (f_CA_number (stR S 7 1 (nI i)) k).2) := by
      rw [f_CA_operand]
      dsimp only
      rw [cur_s, sgn (S := stR S 7 1 (nI i)) hn h60 hi, cur_c, nI_1, nI_1, if_pos (show nI (exl t s) < (6 : Int32) from nI_lt (b := 6) (by omega) (by omega)), stR_c (by decide)]
      rw [show (stR S 7 1 (nI i)).1 k 1 = t from ht]
    rw [e1]
    rcases inv_6 hst with ⟨q, q2, w⟩ | ⟨q, w⟩ | ⟨q, w⟩
    · have hi1 : i + 1 < n := hW.lt (by omega) (by rw [w]; show (6 : Nat) ≠ 0; decide)
      have nD : ¬ isD (t i) := by rcases q with q | q | q <;> (rw [q]; decide)
      have nV : ¬ isV (t i) := by rcases q with q | q | q <;> (rw [q]; decide)
      rw [if_pos ((gs_D _).1.mpr nD), if_pos ((gs_V _).1.mpr nV)]
      rcases q with q | q
      · have hk3 : ¬ 3 ≤ kd t i := by have := kd_1 q; omega
        have nP : ¬ isP (t i) := by rw [q]; decide
        have hpn : popP t ((i, i) :: s) = (i, i) :: s := pop_n nP
        have hx1 : exl t ((i, i) :: s) = exl t s + 1 := exl_push hk3
        have w1 := WFr.o17 M d (b + c) (M 0 28) 0
        have r0 : stM (stM M 17 (d + 1) (M 0 28)) 16 (d + 1) 0 0 = M 0 := by rw [stM_o (by decide), stM_o (by decide)]
        obtain ⟨v, j, e, g', M2, q2', b1, b2, b3, b4, b5, b6, b6', b7, b8, b9, b10, b11⟩ := exp_of hk hW hn ht ih (i + 1) ((i, i) :: s) h x g pr st (stM (stM M 17 (d + 1) (M 0 28)) 16 (d + 1) 0) (d + 1) (b + c) hi1 w (by rw [hx1]; omega) (w1.tx hT) (fun a ha => by rw [stM_o (by decide), stM_o (by decide)]; exact hV a ha) (by rw [r0]; exact h0) (by rw [stM_o (by decide), stM_s, upd_s]; exact h0) (by rw [stM_s, upd_s]) hpn (by rw [hx1, hep]; omega)
        rw [hx1] at b1
        have hst2 := hW.step b3
        rw [b4] at hst2
        have h41 : t j = 41 ∧ rr t (j + 1) = (popP t s, 8, h, x, g', pr, st) := by
          rcases inv_78 b5 hst2 with ⟨z1, z2, _⟩ | ⟨_, ⟨z, _⟩ | ⟨a, l, _, z1, z2, z3, z4⟩ | ⟨a, l, _, z1, z2, _⟩ | ⟨a, l, _, z1, z2, _⟩⟩
          · exact absurd z2 (b6' z1)
          · exact absurd z b6
          · cases z1; exact ⟨z3, z4⟩
          · cases z1; exact absurd q z2
          · cases z1; exact absurd q z2
        have hj1 : j + 1 < n := hW.lt (by omega) (by rw [h41.2]; show (8 : Nat) ≠ 0; decide)
        have w2 : WFr d (b + c) M M2 := w1.tr (b9.dn (Nat.le_succ d) (Nat.le_refl _))
        have hop := opd_s (d := d) (b := b) (c := c) (M := M2) (v := M2 15 (d + 1)) (by omega) (by omega) b10 (by rw [w2.2.2.2.2.1 d (Nat.le_refl _)]; exact h17)
        refine ⟨v, j + 1, 8, g', stM (stM M2 0 28 (nI b)) 15 d (f_GM_apply (M2 16 d) (M2 15 d) (apB (M2 18) b c (M2 15 (d + 1)))), q2' + 1 + 1, ?_, by omega, hj1, h41.2, Or.inr rfl, fun z => by omega, by omega, fun f K => ?_, w2.tr (WFr.o15 M2 d (b + c) (nI b) _), ?_, ?_, ?_⟩
        · rw [if_neg (by rw [q]; decide), if_neg (by rw [q]; decide), b1]
          dsimp only
          rw [cur_s, cur_c, nI_1]
        · rw [show f + (q2' + 1 + 1) = (f + 1 + q2') + 1 by omega, ww_o hk h60 hi hT (by omega) q, b8, ww_c hk h60 b3 (w2.tx hT) (by omega) h41.1, hop]
          rfl
        · rw [stM_o (by decide), stM_o (by decide), b9.2.2.2.1 d (Nat.lt_succ_self d), stM_s, upd_o (by omega), stM_o (by decide)]
        · rw [stM_o (by decide), stM_s, upd_s]
        · rw [stM_s, upd_s, b9.2.2.2.1 d (Nat.lt_succ_self d), stM_s, upd_o (by omega), stM_o (by decide), b9.2.2.1 d (Nat.lt_succ_self d), stM_o (by decide), stM_o (by decide), b11, apB_c c v (fun a ha => w2.2.2.2.2.2 a ha)]
      · have hk3 : ¬ 3 ≤ kd t i := by have := kd_2 q; omega
        have hpn : popP t ((i, i) :: s) = popP t s := pop_y q
        have hx1 : exl t ((i, i) :: s) = exl t s + 1 := exl_push hk3
        have w1 := WFr.o18 M d (b + c) (t i) (nI (b + c + 1))
        obtain ⟨v, j, e, g', M2, q2', b1, b2, b3, b4, b5, b6, b7, b8, b9, b10, b11, b12⟩ := ih (i + 1) ((i, i) :: s) h x g pr st (stM (stM M 18 (b + c) (t i)) 0 28 (nI (b + c + 1))) d b (c + 1) hi1 w (by rw [hx1]; omega) (w1.tx hT) (fun a ha => by rw [stM_o (by decide), stM_o (by decide)]; exact hV a ha) (by rw [stM_s, upd_s]; rfl) (by rw [stM_o (by decide), stM_o (by decide)]; exact h17) (by rw [hpn, List.length_cons, hs]; rfl) (by rw [hpn]; exact hbd)
        rw [hx1] at b1
        rw [hpn] at b4
        have hw : ∀ f K, q_GM_work_26 (f + (q2' + 1)) M p1 (nI (60 * k + i)) 1 (nI d) K = q_GM_work_26 f M2 p1 (nI (60 * k + j)) 0 (nI d) K := fun f K => by
          rw [show f + (q2' + 1) = (f + q2') + 1 by omega, ww_p hk h60 hi hT (show b + c < 60 by omega) h0 nD nV (nd (P := isP) 40 q (by decide)) (nd (P := isP) 41 q (by decide)), b8]
        have w2 : WFr d (b + c) M M2 := w1.tr (b9.dn (Nat.le_refl _) (by omega))
        have r16 : M2 16 d = M 16 d := by rw [b10, stM_o (by decide), stM_o (by decide)]
        have r15 : ∀ y, (if (t i) = 126 then v ^^^ (-1) else -v) = y → M2 15 d = f_GM_apply (M 16 d) (M 15 d) (apB (M 18) b c y) := fun y hy => by
          rw [b12, stM_o (by decide), stM_o (by decide), stM_o (by decide), stM_o (by decide), apB]
          rw [show stM (stM M 18 (b + c) (t i)) 0 28 (nI (b + c + 1)) 18 = upd (M 18) (b + c) (t i) by rw [stM_o (by decide), stM_s]]
          rw [upd_s, hy, apB_c c y (fun a ha => upd_o (by omega))]
        rcases q with q | q
        · refine ⟨v ^^^ (-1), j, e, g', M2, q2' + 1, ?_, by omega, b3, b4, b5, b6, by omega, hw, w2, r16, b11, r15 _ (by rw [if_pos q])⟩
          rw [if_pos q, b1]
        · refine ⟨-v, j, e, g', M2, q2' + 1, ?_, by omega, b3, b4, b5, b6, by omega, hw, w2, r16, b11, r15 _ (by rw [if_neg (by rw [q]; decide)])⟩
          rw [if_neg (by rw [q]; decide), if_pos q, b1]
    · have hi1 : i + 1 < n := hW.lt (by omega) (by rw [w]; show (8 : Nat) ≠ 0; decide)
      have nD : ¬ isD (t i) := fun z => by have := z.2; have := q.1; omega
      obtain ⟨a, ha, hva⟩ := vno_s q
      have hop := opd_s (d := d) (b := b) (c := c) (M := M) (v := M 12 a) (by omega) (by omega) h0 h17
      refine ⟨M 12 a, i + 1, 8, g, stM (stM M 0 28 (nI b)) 15 d (f_GM_apply (M 16 d) (M 15 d) (apB (M 18) b c (M 12 a))), 1, ?_, by omega, hi1, w, Or.inr rfl, fun z => by omega, by omega, fun f K => ?_, WFr.o15 M d (b + c) (nI b) _, ?_, ?_, ?_⟩
      · rw [if_pos ((gs_D _).1.mpr nD), if_neg (fun z => (gs_V _).1.mp z q), hva, nI_clamp (by omega), hV a ha]
      · rw [ww_v hk h60 hi hT q ha hva, hop]
        rfl
      · rw [stM_o (by decide), stM_o (by decide)]
      · rw [stM_o (by decide), stM_s, upd_s]
      · rw [stM_s, upd_s]
    · obtain ⟨j', g', v', b1, b2, b3, b4, b5, b6⟩ := num_q (S := S) (a := t i) (b := 1) (c := nI d) (d := p1) hk hW hn ht 4 (fz 2000) (i + 1) 1 (t i - 48) M hT (by omega) w rfl (by rw [fz_eq]; omega)
      have hop := opd_s (d := d) (b := b) (c := c) (M := M) (v := v') (by omega) (by omega) h0 h17
      refine ⟨v', j', 7, g', stM (stM M 0 28 (nI b)) 15 d (f_GM_apply (M 16 d) (M 15 d) (apB (M 18) b c v')), 1, ?_, by omega, b2, b3, Or.inl rfl, fun _ => b4, by omega, fun f K => ?_, WFr.o15 M d (b + c) (nI b) _, ?_, ?_, ?_⟩
      · rw [if_neg (fun z => (gs_D _).1.mp z q)]
        have : f_CA_number (stR S 7 1 (nI i)) k = (v', stR S 7 1 (nI j')) := by
          unfold f_CA_number
          rw [fz_eq, q_CA_number_4, if_neg (by decide)]
          dsimp only
          rw [cur_s, sgn (S := stR S 7 1 (nI i)) hn h60 hi, cur_c, show (stR S 7 1 (nI i)).1 k 1 = t from ht, if_neg (fun z => (gs_D _).1.mp z q), nI_1, show (0 : Int32) * 10 = 0 from rfl, Int32.zero_add, Int32.zero_add, show (1 : Int32) = nI 1 by decide +kernel]
          exact b5
        rw [this]
      · rw [ww_d hk h60 hi hT q, b6, hop]
        rfl
      · rw [stM_o (by decide), stM_o (by decide)]
      · rw [stM_o (by decide), stM_s, upd_s]
      · rw [stM_s, upd_s]
