theorem pT_e {t : Nat → Int32} {p : Nat} (h : (rr t p).2.1 ≠ 0) : (pT t (p + 1)).1 = (pT t p).1 ∧ (pT t (p + 1)).2.1 = (pT t p).2.1 := by
  show (pS t p (rr t p) (pT t p)).1 = _ ∧ (pS t p (rr t p) (pT t p)).2.1 = _
  unfold pS
  rw [if_neg h]
  split
  · exact ⟨rfl, rfl⟩
  · exact ⟨rfl, rfl⟩
theorem top_lt {t : Nat → Int32} {n q : Nat} (h : WT t n) (hq : q ≤ n) {a : Nat × Nat} (hs : a ∈ (rr t q).1) : a.1 < q ∧ a.2 < q := by
  have hW := h.ws hq
  obtain ⟨stk, e, hh, x, g, pr, st, w⟩ := rs7 (rr t q)
  rw [w] at hW hs
  exact hW.1 a hs
theorem ClO_k {t : Nat → Int32} {k n p : Nat} {S S' : MS} (h : WT t n) (hp : p < n) (H : ClO t k p S) (hc : t p ≠ 125) (h5 : S' 5 = S 5) (h6 : ∀ i, i ≠ 60 * k + p → S' 6 i = S 6 i) (h7 : ∀ i, i ≠ 60 * k + p → S' 7 i = S 7 i) : ClO t k (p + 1) S' := by
  intro q hq q1 q2 a l q3
  have hqp : q ≠ p := fun z => hc (z ▸ q1)
  have ha := top_lt h (show q ≤ n by omega) (a := a) (by rw [q3]; exact List.mem_cons_self)
  obtain ⟨b1, b2, b3, b4⟩ := H q (by omega) q1 q2 a l q3
  refine ⟨by rw [h5]; exact b1, by rw [h5]; exact b2, by rw [h7 _ (by omega)]; exact b3, fun z => by rw [h6 _ (by omega)]; exact b4 z⟩
theorem StO_k {t : Nat → Int32} {k p : Nat} {S S' : MS} (H : StO t k p S) (h8 : ∀ i, i ≠ 60 * k + p → S' 8 i = S 8 i) (h9 : ∀ i, i ≠ 60 * k + p → S' 9 i = S 9 i) (hn : ((rr t p).2.1 = 2 ∨ (rr t p).2.1 = 3) → t p ≠ 125 → t p ≠ 58 → S' 8 (60 * k + p) = nI ((rr t p).2.2.2.2.2.2 + 1) ∧ S' 9 (60 * k + p) = (rr t p).2.2.2.2.2.1 + 65) : StO t k (p + 1) S' := by
  intro q hq q1 q2 q3
  by_cases w : q = p
  · subst w; exact hn q1 q2 q3
  · obtain ⟨b1, b2⟩ := H q (by omega) q1 q2 q3
    exact ⟨by rw [h8 _ (by omega)]; exact b1, by rw [h9 _ (by omega)]; exact b2⟩
theorem OpO_k {t : Nat → Int32} {k p : Nat} {S S' : MS} {l : List (Nat × Nat)} (H : OpO t k S l) (hl : ∀ a ∈ l, a.2 < p) (h6 : ∀ i, i ≠ 60 * k + p → S' 6 i = S 6 i) (h7 : ∀ i, i ≠ 60 * k + p → S' 7 i = S 7 i) : OpO t k S' l := by
  intro a ha
  have := hl a ha
  obtain ⟨b1, b2⟩ := H a ha
  exact ⟨by rw [h7 _ (by omega)]; exact b1, fun z => by rw [h6 _ (by omega)]; exact b2 z⟩
theorem s_ne {S : MS} {c i c' i' : Nat} {v : Int32} (h : i' ≠ i) : stM S c i v c' i' = S c' i' := by
  rw [stM_at, if_neg h, ite_self]
theorem map_q {t : Nat → Int32} {k n : Nat} {M : MS} (hk : k < 3) (h : WT t n) (hT : TX M k n t) : ∀ (f p : Nat) (S : MS) (y4 y6 y5 y7 y8 : Int32), p ≤ n → n < p + f → FM k M S → ClO t k p S → StO t k p S → Cur t k S y6 y5 y7 y8 (rr t p) → ((pT t p).2.1 = 0 → y4 = f_JI_bitCount (pT t p).1) →
    ∃ S' y4', q_GM_map_25 f S (nI (60 * k)) (nI k) y4 y6 y5 y7 (nI (dp t p)) y8 (nI (60 * k + p)) (fun S y _ _ _ _ _ _ => some (y, S)) = some (y4', S') ∧ FM k M S' ∧ ClO t k n S' ∧ StO t k n S' ∧ ((pT t n).2.1 = 0 → y4' = f_JI_bitCount (pT t n).1) := by
  intro f
  induction f with
  | zero => intro p _ _ _ _ _ _ hp hf; omega
  | succ f ih =>
    intro p S y4 y6 y5 y7 y8 hp hf hF hC hO hU hN
    have h60 := h.1
    have hTS := hF.tx hT
    by_cases q : n ≤ p
    · have e : p = n := by omega
      subst e
      refine ⟨S, y4, ?_, hF, hC, hO, hN⟩
      rw [q_GM_map_25]
      simp only [↓ltE, jnE, ix_nI hk (by omega), gdE, nI_clamp (show k < 2 ^ 31 by omega), hTS.1, nI_add]
      rw [if_pos (nI_le (Nat.le_refl _) (by omega))]
    · have hp : p < n := by omega
      have hd6 := dp_le h (Nat.le_of_lt hp)
      obtain ⟨stk, e, hh, x, g, pr, st, w0⟩ := rs7 (rr t p)
      have hW := h.ws (Nat.le_of_lt hp)
      have hX1 := WX_run (h.run (show p + 1 ≤ n by omega))
      have kk := kinds h hp w0
      have d0 : dp t p = (blk t stk).length := by unfold dp; rw [w0]
      rw [w0] at hW hU
      obtain ⟨a1, a2, a3, a4, a5, a6, a7, a8, a9, a10, a11, a12, a13⟩ := hW
      obtain ⟨u1, u2, u3, u4, u5, u6, u7, u8⟩ := hU
      have hE : e ≠ 0 → ((pT t (p + 1)).2.1 = 0 → y4 = f_JI_bitCount (pT t (p + 1)).1) := fun q0 => by
        have := pT_e (t := t) (p := p) (by rw [w0]; exact q0)
        rw [this.1, this.2]; exact hN
      have bl2 : ∀ a ∈ blk t stk, a.2 < p := fun a ha => (a1 a (blk_mem ha)).2
      rcases kk with ⟨rfl, rfl, z, w⟩ | ⟨z, e1, k1, k2, k3, k4, k5, w⟩ | ⟨z, rfl, w⟩ | ⟨a, l, z, z2, rfl, w⟩ | ⟨e', x', z, z1, z2, z3, z4, z5, z6, w⟩ | ⟨s', e', g', z, z1, z2, z3, z4, z5, z6, z7, w⟩
      · have d1 : dp t (p + 1) = 0 := by unfold dp; rw [w]; rfl
        rw [d0, show (blk t []).length = 0 from rfl, mp_0 hk h60 hp hTS z]
        rw [← d1]
        refine ih (p + 1) _ _ _ _ _ _ (by omega) (by omega) ((hF.st (by omega) (by omega) (by omega) (by omega)).st (by omega) (by omega) (by omega) (by omega)) (ClO_k h hp hC (nd (P := isL) 125 z (by decide)) (by rw [stM_o (by decide), stM_o (by decide)]) (fun i hi => by rw [s_ne hi, s_ne hi]) (fun i hi => by rw [s_ne hi, s_ne hi])) (StO_k hO (fun i hi => by rw [s_ne hi, s_ne hi]) (fun i hi => by rw [s_ne hi, s_ne hi]) (fun q0 => by rw [w0] at q0; exact absurd q0 (by show ¬ ((0 : Nat) = 2 ∨ (0 : Nat) = 3); omega))) ?_ ?_
        · rw [w]
          refine ⟨fun q0 => by omega, fun _ => rfl, fun _ => ⟨by rw [Int32.sub_add_cancel], nI_0.symm⟩, fun q0 => by omega, fun _ _ => ⟨rfl, ?_⟩, fun q0 => by omega, trivial, fun a ha => absurd ha List.not_mem_nil⟩
          rw [stM_at, if_pos rfl, if_pos rfl, kd_L.mp z]; rfl
        · obtain ⟨l1, l2, l3⟩ := lno_s z
          rw [pT_0 (by rw [w0])]
          intro q0
          have q0 : (if bt (pT t p).1 (lno (t p)) then 1 else (pT t p).2.1) = 0 := q0
          cases v : bt (pT t p).1 (lno (t p)) with
          | true => rw [v, if_pos rfl] at q0; exact absurd q0 (by decide)
          | false =>
            rw [v] at q0
            show y4 + 1 = f_JI_bitCount ((pT t p).1 ||| _)
            rw [cnt_add l2 v, hN q0]
      · have hp0 : 0 < p := by
          have := a2 (by omega)
          omega
        obtain ⟨p', rfl⟩ : ∃ p', p = p' + 1 := ⟨p - 1, by omega⟩
        have hh60 := a2 (by omega)
        have d1 : dp t (p' + 1 + 1) = stk.length + 1 := by unfold dp; rw [w]; show (blk t ((hh, p' + 1) :: stk)).length = _; rw [blk_y k1]; rfl
        have hb := blk_EB k3
        rw [hb] at d0 bl2 u7 u8
        have hz : (t p' = 58 → kd t hh = 5) ∧ (t p' ≠ 58 → y7 = nI (60 * k + hh) ∧ S 7 (60 * k + hh) = nI (kd t hh)) := by
          by_cases q1 : e = 1
          · have := pv_1 h (Nat.le_of_lt hp) (by rw [w0, q1])
            have e2 : p' = hh := by omega
            rw [e2]
            exact ⟨kd_5, u5 q1⟩
          · refine ⟨fun q2 => ?_, fun _ => ⟨u4 (by omega), u6 (by omega) (x123 h hp w0 (by omega) z)⟩⟩
            have := pv_58 h (show p' < n by omega) q2
            rw [w0] at this
            exact absurd this q1
        have hv : (if t p' = 58 then (5 : Int32) else S 7 (60 * k + hh)) = nI (kd t hh) := by
          by_cases q1 : t p' = 58
          · rw [if_pos q1, hz.1 q1]; rfl
          · rw [if_neg q1, (hz.2 q1).2]
        have h6o : kd t hh = 6 → y7 = nI (60 * k + hh) := fun q1 => (hz.2 (fun q2 => by have := hz.1 q2; omega)).1
        rw [d0, mp_1 (h := hh) hk h60 hp hTS z (u2 (by omega)) k5 (fun q1 => ⟨(hz.2 q1).1, by omega⟩), hv, ← d1]
        refine ih (p' + 1 + 1) _ _ _ _ _ _ (by omega) (by omega) ((((hF.st (by omega) (by omega) (by omega) (by omega)).st (by omega) (by omega) (by omega) (by omega)).st (by omega) (by omega) (by omega) (by omega)).s4) (ClO_k h hp hC (by rw [z]; decide) (by rw [stM_o (by decide), stM_o (by decide), stM_o (by decide), stM_o (by decide)]) (fun i hi => by rw [stM_o (by decide), s_ne hi, s_ne hi, s_ne hi]) (fun i hi => by rw [stM_o (by decide), s_ne hi, s_ne hi, s_ne hi])) (StO_k hO (fun i hi => by rw [stM_o (by decide), s_ne hi, s_ne hi, s_ne hi]) (fun i hi => by rw [stM_o (by decide), s_ne hi, s_ne hi, s_ne hi]) (fun q0 => by rw [w0] at q0; have q0 : e = 2 ∨ e = 3 := q0; omega)) ?_ (hE (by omega))
        rw [w]
        refine ⟨fun _ => rfl, fun q0 => by omega, fun _ => u3 (by omega), fun q0 => by omega, fun q0 => by omega, fun q0 => by omega, ?_, ?_⟩
        · rw [blk_y k1, stM_s]
          refine ⟨?_, ?_⟩
          · exact upd_s
          · rw [stM_o (by decide), stM_o (by decide), stM_o (by decide)]
            exact OW_upd u7 (Nat.le_refl _)
        · rw [blk_y k1]
          intro b hb2
          rcases List.mem_cons.mp hb2 with rfl | hb2
          · refine ⟨?_, fun q0 => ?_⟩
            · rw [stM_o (by decide), stM_s, upd_s]
            · rw [stM_o (by decide), stM_o (by decide), stM_s, upd_s, h6o q0]
          · exact OpO_k u8 bl2 (fun i hi => by rw [stM_o (by decide), s_ne hi, s_ne hi, s_ne hi]) (fun i hi => by rw [stM_o (by decide), s_ne hi, s_ne hi, s_ne hi]) b hb2
      · clear q; obtain ⟨q, a, rfl, b1, b2, b3, b4⟩ := pv_3 h (Nat.le_of_lt hp) w0
        have hE2 := a6 (by omega)
        have d1 : dp t (q + 1 + 1) = (blk t stk).length := by unfold dp; rw [w]
        have hpos : 0 < (blk t stk).length := by rw [blk_EB hE2]; exact List.length_pos_iff.mpr (a10 (by omega))
        have ha := top_lt h (show q ≤ n by omega) (a := a) (by rw [b3]; exact List.mem_cons_self)
        rw [d0] at hd6 ⊢
        rw [mp_2 (a := a.2) hk h60 hp hTS z (u1 (by omega)) hpos hd6 (by omega) (hC q (by omega) b1 b2 a stk b3).1, ← d1]
        refine ih (q + 1 + 1) _ _ _ _ _ _ (by omega) (by omega) (hF.st (by omega) (by omega) (by omega) (by omega)) (ClO_k h hp hC (by rw [z]; decide) (by rw [stM_o (by decide)]) (fun i hi => by rw [s_ne hi]) (fun i hi => by rw [s_ne hi])) (StO_k hO (fun i hi => by rw [s_ne hi]) (fun i hi => by rw [s_ne hi]) (fun _ _ q0 => absurd z q0)) ?_ (hE (by omega))
        rw [w]
        refine ⟨fun q0 => by omega, fun _ => rfl, fun _ => u3 (by omega), fun q0 => by omega, fun _ q0 => absurd z q0, fun q0 => by omega, ?_, OpO_k u8 bl2 (fun i hi => by rw [s_ne hi]) (fun i hi => by rw [s_ne hi])⟩
        rw [stM_o (by decide)]; exact u7
      · have hE2 := a6 (by omega)
        have hb := blk_EB hE2
        have hb2 := blk_EB hE2.2
        rw [hb] at d0 u7 u8 bl2
        have d1 : dp t (p + 1) = l.length := by unfold dp; rw [w]; show (blk t l).length = _; rw [hb2]
        have ha := a1 a List.mem_cons_self
        have a13 : l.length + 1 ≤ 6 := a13
        have h3 : t a.2 = 123 := hE2.1.2.2.2.1
        rw [d0, show (a :: l).length = l.length + 1 from rfl, mp_3 (a := a.2) hk h60 hp hTS z (u1 (by omega)) (by omega) (by omega) u7.1, ← d1]
        refine ih (p + 1) _ _ _ _ _ _ (by omega) (by omega) (((hF.st (by omega) (by omega) (by omega) (by omega)).st (by omega) (by omega) (by omega) (by omega)).st (by omega) (by omega) (by omega) (by omega)) ?_ (StO_k hO (fun i hi => by rw [stM_o (by decide), s_ne hi, s_ne hi]) (fun i hi => by rw [stM_o (by decide), s_ne hi, s_ne hi]) (fun _ q0 => absurd z q0)) ?_ (hE (by omega))
        · intro q hq q1 q2 b l' q3
          by_cases v : q = p
          · subst v
            rw [w0] at q3
            have q3 : a :: l = b :: l' := q3
            cases q3
            obtain ⟨v1, v2⟩ := u8 a List.mem_cons_self
            refine ⟨?_, ?_, ?_, fun q4 => ?_⟩
            · rw [stM_s, upd_o (by omega), stM_s, upd_s]
            · rw [stM_s, upd_s]
            · rw [stM_o (by decide), stM_o (by decide), stM_o (by decide)]; exact v1
            · rw [stM_o (by decide), stM_o (by decide), stM_o (by decide)]; exact v2 q4
          · obtain ⟨v1, v2, v3, v4⟩ := hC q (by omega) q1 q2 b l' q3
            have hbq := top_lt h (show q ≤ n by omega) (a := b) (by rw [q3]; exact List.mem_cons_self)
            have hg := GO_run q1 q2 q3 (show q < p by omega) (h.run (Nat.le_of_lt hp)) a (by rw [w0]; exact List.mem_cons_self)
            have hqa : q ≠ a.2 := fun q4 => by rw [q4, h3] at q1; exact absurd q1 (by decide)
            refine ⟨?_, ?_, ?_, fun q4 => ?_⟩
            · rw [stM_s, upd_o (by omega), stM_s, upd_o (by omega), stM_o (by decide)]; exact v1
            · rw [stM_s, upd_o (by omega), stM_s, upd_o (by omega), stM_o (by decide)]; exact v2
            · rw [stM_o (by decide), stM_o (by decide), stM_o (by decide)]; exact v3
            · rw [stM_o (by decide), stM_o (by decide), stM_o (by decide)]; exact v4 q4
        · rw [w]
          refine ⟨fun _ => rfl, fun q0 => ?_, fun _ => u3 (by omega), fun q0 => ?_, fun q0 => ?_, fun q0 => ?_, ?_, ?_⟩
          · revert q0; split
            · omega
            · split <;> omega
          · revert q0; split
            · omega
            · split <;> omega
          · revert q0; split
            · omega
            · split <;> omega
          · revert q0; split
            · omega
            · split <;> omega
          · rw [hb2, stM_o (by decide), stM_o (by decide), stM_o (by decide)]; exact u7.2
          · rw [hb2]
            intro b hb3
            rw [stM_o (by decide), stM_o (by decide), stM_o (by decide), stM_o (by decide), stM_o (by decide), stM_o (by decide)]
            exact u8 b (List.mem_cons_of_mem _ hb3)
      · have hE2 := a6 (by omega)
        have d1 : dp t (p + 1) = (blk t stk).length := by unfold dp; rw [w]
        have hpos : 0 < (blk t stk).length := by rw [blk_EB hE2]; exact List.length_pos_iff.mpr (a10 (by omega))
        rw [w] at hX1
        have hx := hX1.2.2.1 z5
        obtain ⟨u31, u32⟩ := u3 (by omega)
        rw [d0] at hd6 ⊢
        rw [mp_4 hk h60 hp hTS (u1 z) hpos hd6 z1 z2 z3 z4, ← d1]
        refine ih (p + 1) _ _ _ _ _ _ (by omega) (by omega) ((((hF.st (by omega) (by omega) (by omega) (by omega)).st (by omega) (by omega) (by omega) (by omega)).st (by omega) (by omega) (by omega) (by omega)).st (by omega) (by omega) (by omega) (by omega)) (ClO_k h hp hC z2 (by rw [stM_o (by decide), stM_o (by decide), stM_o (by decide), stM_o (by decide)]) (fun i hi => by rw [s_ne hi, s_ne hi, s_ne hi, s_ne hi]) (fun i hi => by rw [s_ne hi, s_ne hi, s_ne hi, s_ne hi])) (StO_k hO (fun i hi => by rw [s_ne hi, s_ne hi, s_ne hi, s_ne hi]) (fun i hi => by rw [s_ne hi, s_ne hi, s_ne hi, s_ne hi]) (fun _ _ _ => ?_)) ?_ (hE (by omega))
        · rw [w0]
          refine ⟨?_, ?_⟩
          · rw [stM_o (by decide), stM_o (by decide), stM_s, upd_s, u32, nI_1]
          · rw [stM_o (by decide), stM_s, upd_s, u31]
        · rw [w]
          refine ⟨fun q0 => by omega, fun _ => rfl, fun _ => ⟨u31, by rw [u32, nI_1]⟩, fun _ => rfl, fun q0 => by omega, fun _ q0 => ?_, ?_, OpO_k u8 bl2 (fun i hi => by rw [s_ne hi, s_ne hi, s_ne hi, s_ne hi]) (fun i hi => by rw [s_ne hi, s_ne hi, s_ne hi, s_ne hi])⟩
          · rw [stM_s, upd_s]
            rcases hx.2.2.2.2.mp q0 with q1 | q1
            · rw [if_pos q1, kd_4 q1]; rfl
            · rw [if_neg (by rw [q1]; decide), if_pos q1, kd_6 q1]; rfl
          · rw [stM_o (by decide), stM_o (by decide), stM_o (by decide), stM_o (by decide)]; exact u7
      · have d1 : dp t (p + 1) = (blk t stk).length := by unfold dp; rw [w]; show (blk t s').length = _; rw [z7]
        rw [d0, mp_5 hk h60 hp hTS (u2 (by omega)) z1 z2 z3 z4, ← d1]
        refine ih (p + 1) _ _ _ _ _ _ (by omega) (by omega) (hF.st (by omega) (by omega) (by omega) (by omega)) (ClO_k h hp hC z2 (by rw [stM_o (by decide)]) (fun i hi => by rw [s_ne hi]) (fun i hi => by rw [s_ne hi])) (StO_k hO (fun i hi => by rw [s_ne hi]) (fun i hi => by rw [s_ne hi]) (fun q0 => by rw [w0] at q0; have q0 : e = 2 ∨ e = 3 := q0; omega)) ?_ (hE (by omega))
        rw [w]
        refine ⟨fun q0 => ?_, fun q0 => ?_, fun _ => u3 (by omega), fun _ => u4 z, fun q0 => by omega, fun _ q0 => ?_, ?_, ?_⟩
        · rw [if_pos (z5.mp (by omega))]
        · rw [if_neg (fun q1 => by have := z5.mpr q1; omega)]
        · rw [stM_o (by decide)]; exact u6 z q0
        · rw [z7, stM_o (by decide)]; exact u7
        · rw [z7]; exact OpO_k u8 bl2 (fun i hi => by rw [s_ne hi]) (fun i hi => by rw [s_ne hi])
theorem map_s {t : Nat → Int32} {k n : Nat} {M : MS} (hk : k < 3) (h : WT t n) (hT : TX M k n t) : ∃ v S', f_GM_map M (nI k) = some (v, S') ∧ FM k M S' ∧ ClO t k n S' ∧ StO t k n S' ∧ ((pT t n).2.1 = 0 → v = f_JI_bitCount (pT t n).1) := by
  have h60 := h.1
  have e : f_GM_map M (nI k) = q_GM_map_25 (fz 2000) M (nI (60 * k)) (nI k) 0 0 0 0 (nI (dp t 0)) 0 (nI (60 * k + 0)) (fun S y _ _ _ _ _ _ => some (y, S)) := by
    unfold f_GM_map
    simp only [↓ltE, n60]
    rfl
  rw [e]
  obtain ⟨S', y4', b1, b2, b3, b4, b5⟩ := map_q hk h hT (fz 2000) 0 M 0 0 0 0 0 (Nat.zero_le _) (by rw [fz_eq]; omega) FM.rf (fun q hq => by omega) (fun q hq => by omega) ⟨fun q => absurd q (by show ¬ ((0 : Nat) = 2 ∨ (0 : Nat) = 3); omega), fun _ => rfl, fun q => absurd rfl q, fun q => absurd q (by show ¬ 4 ≤ (0 : Nat); omega), fun q => absurd q (by show ¬ (0 : Nat) = 1; omega), fun q => absurd q (by show ¬ 4 ≤ (0 : Nat); omega), trivial, fun a ha => absurd ha List.not_mem_nil⟩ (fun _ => by rw [show (pT t 0).1 = 0 from rfl, cnt_s]; decide +kernel)
  exact ⟨y4', S', b1, b2, b3, b4, b5⟩
