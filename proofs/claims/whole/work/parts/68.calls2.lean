theorem FI_wt {t : Nat → Int32} {n : Nat} {v : Int32} (h60 : n ≤ 60) (h : FaultIs t n v) : v = -2 ↔ WT t n := by
  have ne : ∀ p, p ≤ 60 → ¬ nI p = (-2 : Int32) := fun p hp z => by
    have : (nI p).toInt = -2 := by rw [z]; rfl
    rw [nI_toInt (by omega)] at this
    omega
  rcases h with ⟨p, p1, ⟨r, p2⟩, p3, rfl⟩ | ⟨r, p1, rfl⟩
  · refine ⟨fun z => absurd z (ne p (by omega)), fun z => ?_⟩
    have := z.run (show p + 1 ≤ n by omega)
    rw [p3] at this
    cases this
  · by_cases q : r.2.1 = 0
    · rw [if_pos q]; exact ⟨fun _ => ⟨h60, r, p1, q⟩, fun _ => rfl⟩
    · rw [if_neg q]
      refine ⟨fun z => absurd z (ne n h60), fun z => ?_⟩
      obtain ⟨_, r', e1, e2⟩ := z
      rw [p1] at e1
      cases e1
      exact absurd e2 q
theorem TOK_eq {T T' : Nat → Nat → Int32} {t : Nat → Int32} {n : Nat} (h : TOK T t n) (hj : ∀ j, j ≠ 0 → T' j = T j) (h7 : T' 0 7 = T 0 7) (h8 : T' 0 8 = T 0 8) : TOK T' t n := by
  unfold TOK
  rw [hj 2 (by decide), hj 3 (by decide), hj 4 (by decide), hj 5 (by decide), hj 6 (by decide), h7, h8]
  exact h
theorem LKd_f {S S' : CS} {M M' : MS} {nn : Nat → Nat} (h : LKd S M nn) (h1 : ∀ j, S'.1 j 1 = S.1 j 1) (h6 : ∀ j, S'.1 j 0 6 = S.1 j 0 6) (hT : ∀ j, j < 3 → TOK (S'.1 j) (S.1 j 1) (nn j)) (e4 : S'.2 4 = S.2 4) (e5 : S'.2 5 = S.2 5) (e6 : S'.2 6 = S.2 6) (hM : MKp M M') : LKd S' M' nn := by
  obtain ⟨g1, g2, g3, g4, g5⟩ := h
  unfold LKd
  rw [e4, e5, e6, hM 10 (by omega) (by omega) (by omega) (by omega)]
  refine ⟨fun k hk => ?_, g2, fun L hL hb => ?_, g4, g5⟩
  · obtain ⟨a1, a2, a3, a4, a5, a6, a7⟩ := g1 k hk
    rw [h1, h6]
    exact ⟨a1, a2, a3, hT k hk, ⟨by rw [hM 2 (by omega) (by omega) (by omega) (by omega)]; exact a5.1, fun i hi => by rw [hM 1 (by omega) (by omega) (by omega) (by omega)]; exact a5.2 i hi⟩, ClO_eq (hM 5 (by omega) (by omega) (by omega) (by omega)) (hM 6 (by omega) (by omega) (by omega) (by omega)) (hM 7 (by omega) (by omega) (by omega) (by omega)) a6, StO_eq (hM 8 (by omega) (by omega) (by omega) (by omega)) (hM 9 (by omega) (by omega) (by omega) (by omega)) a7⟩
  · obtain ⟨j, j1, j2⟩ := g3 L hL hb
    refine ⟨j, j1, ?_⟩
    rw [h1]; exact j2
theorem FrOK_f {S S' : CS} {nn : Nat → Nat} {L k p i : Nat} (h : FrOK S nn L k p i) (h1 : ∀ j, S'.1 j 1 = S.1 j 1) (e4 : S'.2 4 = S.2 4) (e5 : S'.2 5 = S.2 5) (e6 : S'.2 6 = S.2 6) : FrOK S' nn L k p i := by
  unfold FrOK; rw [h1, e4, e5, e6]; exact h
theorem LF_f {S S' : CS} {M M' : MS} {nn : Nat → Nat} (h1 : ∀ j, S'.1 j 1 = S.1 j 1) (e4 : S'.2 4 = S.2 4) (e5 : S'.2 5 = S.2 5) (e6 : S'.2 6 = S.2 6) (e10 : S'.2 10 = S.2 10) (e11 : S'.2 11 = S.2 11) (m14 : M' 14 = M 14) : ∀ {l : FLs}, LF S M nn l → LF S' M' nn l
  | [], _ => trivial
  | (L, k, p) :: l, h => by
    obtain ⟨a1, a2, a3, a4, a5⟩ := h
    exact ⟨FrOK_f a1 h1 e4 e5 e6, by rw [e10]; exact a2, by rw [e11]; exact a3, by rw [m14]; exact a4, LF_f h1 e4 e5 e6 e10 e11 m14 a5⟩
theorem s_fault {N : Nat} {S : CS} {M : MS} (a : Int32) (h : Rel N S M) : ∃ M1, f_GM_fault M a = some ((f_GS_fault S a).1, M1) ∧ Rel (N + 1) (f_GS_fault S a).2 M1 := by
  unfold f_GS_fault
  rcases mod_c a with ⟨h1, h2⟩ | ⟨k, h0, rfl, h1, h2⟩
  · unfold f_GM_fault
    simp only [↓ltE, jnE, h1, h2, i00, if_true]
    exact ⟨M, rfl, Rel_up h⟩
  · obtain ⟨n, hn, en⟩ := len_s h.1 h0
    obtain ⟨v, M', b1, b2, b3⟩ := mfau_s h0 hn (RB_tx h.2.1 h0 hn en)
    obtain ⟨c1, c2, c3⟩ := fau_t h.1 h0 en hn
    have hic := IC_fau h.1 h0
    have ev := FaultIs_one b2 c1
    simp only [h1, i10, if_false, nI_clamp (show k < 2 ^ 31 by omega)]
    rw [b1, ev]
    refine ⟨M', rfl, IC_mono hic (by omega), ?_⟩
    generalize (f_RD_faultOf S k).2 = S' at c2 c3 hic ⊢
    obtain ⟨f1, f2, f3, f4, f5⟩ := c2
    have t1 : ∀ j, S'.1 j 1 = S.1 j 1 := fun j => by
      by_cases q : j = k
      · subst q; exact f3
      · rw [f2 j q]
    have t6 : ∀ j, S'.1 j 0 6 = S.1 j 0 6 := fun j => by
      by_cases q : j = k
      · subst q; exact f4
      · rw [f2 j q]
    have t9 : ∀ j, S'.1 j 0 9 = S.1 j 0 9 := fun j => by
      by_cases q : j = k
      · subst q; exact f5
      · rw [f2 j q]
    obtain ⟨r1, r2, r3, r4, r5, r6, r7⟩ := h.2.1
    have mc : ∀ c, c ≠ 0 → c ≠ 4 → M' c = M c := fun c q1 q2 => b3.1 c q1 q2
    have m0 : ∀ i, i < 5 ∨ 9 < i → M' 0 i = M 0 i := fun i hi => b3.2 i (by omega) (by omega) (by omega) (by omega) (by omega)
    have hTK : ∀ m, m ≤ 60 → S.1 k 0 6 = nI m → WT (S.1 k 1) m → TOK (S'.1 k) (S.1 k 1) m := fun m hm em hw => by
      have e : m = n := by rw [en] at em; exact ((nI_eq (by omega) (by omega)).mp em).symm
      subst e
      exact c3 hw
    have hLK : ∀ nn, LKd S M nn → LKd S' M' nn := fun nn hK => by
      refine LKd_f hK t1 t6 (fun j hj => ?_) (f1 4 (by decide) (by decide)) (f1 5 (by decide) (by decide)) (f1 6 (by decide) (by decide)) (fun c q1 q2 _ q4 => mc c (by omega) q4)
      obtain ⟨a1, a2, a3, a4, _⟩ := hK.1 j hj
      by_cases q : j = k
      · subst q; exact hTK _ a2.1 a1 a2
      · rw [f2 j q]; exact a4
    refine ⟨⟨fun j hj => ?_, fun j hj => ?_, fun j hj => ?_, ?_, ?_, ?_, fun j hj z m hm z2 => ?_⟩, ?_, ?_⟩
    · rw [mc 2 (by decide) (by decide), mc 3 (by decide) (by decide), mc 1 (by decide) (by decide), t6, t9, t1]; exact r1 j hj
    · rw [mc 12 (by decide) (by decide), f1 8 (by decide) (by decide)]; exact r2 j hj
    · rw [mc 13 (by decide) (by decide), f1 12 (by decide) (by decide)]; exact r3 j hj
    · rw [m0 19 (by omega), f1 9 (by decide) (by decide)]; exact r4
    · rw [m0 3 (by omega), f1 0 (by decide) (by decide)]; exact r5
    · rw [f1 0 (by decide) (by decide)]; exact r6
    · rw [t9] at z
      rw [t6] at z2
      rw [t1]
      obtain ⟨y1, y2, y3⟩ := r7 j hj z m hm z2
      refine ⟨y1, ?_, y3⟩
      by_cases q : j = k
      · subst q; exact hTK m hm z2 y1
      · rw [f2 j q]; exact y2
    · intro z
      rw [f1 0 (by decide) (by decide)] at z
      obtain ⟨y1, nn, y2⟩ := h.2.2.1 z
      exact ⟨fun j hj => by rw [t9]; exact y1 j hj, nn, hLK nn y2⟩
    · rcases h.2.2.2 with ⟨y1, y2⟩ | ⟨y1, nn, L, k', p, l, y2, y3, y4⟩
      · exact Or.inl ⟨by rw [f1 9 (by decide) (by decide)]; exact y1, by rw [m0 20 (by omega)]; exact y2⟩
      · refine Or.inr ⟨by rw [f1 0 (by decide) (by decide)]; exact y1, nn, L, k', p, l, hLK nn y2, ?_, by rw [t1]; exact y4⟩
        obtain ⟨u1, u2, u3, u4, u5, u6, u7, u8⟩ := y3
        have e4 := f1 4 (by decide) (by decide)
        have e5 := f1 5 (by decide) (by decide)
        have e6 := f1 6 (by decide) (by decide)
        have e10 := f1 10 (by decide) (by decide)
        have e11 := f1 11 (by decide) (by decide)
        exact ⟨FrOK_f u1 t1 e4 e5 e6, by rw [e10]; exact u2, by rw [e11]; exact u3, by rw [m0 21 (by omega)]; exact u4, by rw [f1 9 (by decide) (by decide)]; exact u5, by rw [m0 23 (by omega)]; exact u6, by rw [m0 20 (by omega)]; exact u7, LF_f t1 e4 e5 e6 e10 e11 (mc 14 (by decide) (by decide)) u8⟩
theorem RB_comp {S S1 : CS} {M M' : MS} {k : Nat} {z : Int32} (h : RB S M) (hF : FR k S S1) (hz : bl z) (hok : z = 1 → ∀ n, n ≤ 60 → S.1 k 0 6 = nI n → WT (S.1 k 1) n ∧ TOK (S1.1 k) (S.1 k 1) n ∧ (pT (S.1 k 1) n).2.1 = 0) (m1 : M' 1 = M 1) (m2 : M' 2 = M 2) (m3 : M' 3 = upd (M 3) k z) (m12 : M' 12 = M 12) (m13 : M' 13 = M 13) (m19 : M' 0 19 = M 0 19) (m03 : M' 0 3 = 0) (m20 : M' 0 20 = 0) : RB (stR (stR (stT S1 k 0 9 z) 0 5 0) 9 3 0) M' ∧ RL (stR (stR (stT S1 k 0 9 z) 0 5 0) 9 3 0) M' := by
  obtain ⟨f1, f2, f3, f4, f5⟩ := hF
  obtain ⟨r1, r2, r3, r4, r5, r6, r7⟩ := h
  refine ⟨⟨fun j hj => ?_, fun j hj => ?_, fun j hj => ?_, ?_, ?_, ?_, fun j hj y n hn y2 => ?_⟩, RL_0 ?_ ?_ m20⟩
  · obtain ⟨p1, p2, p3⟩ := r1 j hj
    rw [m1, m2, m3]
    show _ = (stT S1 k 0 9 z).1 j 0 6 ∧ _ = (stT S1 k 0 9 z).1 j 0 9 ∧ ∀ i, i < 60 → _ = (stT S1 k 0 9 z).1 j 1 i
    by_cases q : j = k
    · subst q
      refine ⟨?_, ?_, fun i hi => ?_⟩
      · rw [stT_s, upd_o (by decide), f4]; exact p1
      · rw [upd_s, stT_s, upd_s]
      · rw [stT_o (by decide), f3]; exact p3 i hi
    · rw [stT_k q, upd_o q, f2 j q]
      exact ⟨p1, p2, p3⟩
  · rw [m12, stR_o (by decide), stR_o (by decide)]
    show _ = S1.2 8 j
    rw [f1 8 (by decide) (by decide)]; exact r2 j hj
  · rw [m13, stR_o (by decide), stR_o (by decide)]
    show _ = S1.2 12 j
    rw [f1 12 (by decide) (by decide)]; exact r3 j hj
  · rw [m19, stR_s, upd_o (by decide), stR_o (by decide)]
    show _ = S1.2 9 4
    rw [f1 9 (by decide) (by decide)]; exact r4
  · rw [m03, stR_o (by decide), stR_s, upd_s]
  · rw [stR_o (by decide), stR_s, upd_s]; exact Or.inl rfl
  · have y : (stT S1 k 0 9 z).1 j 0 9 = 1 := y
    have y2 : (stT S1 k 0 9 z).1 j 0 6 = nI n := y2
    show WT ((stT S1 k 0 9 z).1 j 1) n ∧ TOK ((stT S1 k 0 9 z).1 j) ((stT S1 k 0 9 z).1 j 1) n ∧ (pT ((stT S1 k 0 9 z).1 j 1) n).2.1 = 0
    by_cases q : j = k
    · subst q
      rw [stT_s, upd_s] at y
      rw [stT_s, upd_o (by decide), f4] at y2
      rw [show (stT S1 j 0 9 z).1 j 1 = S.1 j 1 by rw [stT_o (by decide), f3]]
      obtain ⟨w1, w2, w3⟩ := hok y n hn y2
      exact ⟨w1, TOK_eq w2 (fun i hi => stT_o hi) (by rw [stT_s, upd_o (by decide)]) (by rw [stT_s, upd_o (by decide)]), w3⟩
    · rw [stT_k q, f2 j q] at y y2 ⊢
      exact r7 j hj y n hn y2
  · rw [stR_o (by decide), stR_s, upd_s]
  · rw [stR_s, upd_s]
theorem s_compile {N : Nat} {S : CS} {M : MS} (a : Int32) (h : Rel N S M) : ∃ M1, f_GM_compile M a = some ((f_GS_compile S a).1, M1) ∧ Rel (N + 1) (f_GS_compile S a).2 M1 := by
  unfold f_GS_compile f_GM_compile
  rcases mod_c a with ⟨h1, h2⟩ | ⟨k, h0, rfl, h1, h2⟩
  · simp only [↓ltE, jnE, h1, h2, i00, if_true]
    exact ⟨M, rfl, Rel_up h⟩
  · obtain ⟨n, hn, en⟩ := len_s h.1 h0
    have hTX := RB_tx h.2.1 h0 hn en
    have hTX2 : TX (stM (stM (stM M 0 3 0) 0 20 0) 3 k 0) k n (S.1 k 1) := ⟨by rw [stM_o (by decide), stM_o (by decide), stM_o (by decide)]; exact hTX.1, fun i hi => by rw [stM_o (by decide), stM_o (by decide), stM_o (by decide)]; exact hTX.2 i hi⟩
    obtain ⟨v, M', b1, b2, b3⟩ := mfau_s h0 hn hTX2
    obtain ⟨c1, c2, c3⟩ := fau_t h.1 h0 en hn
    have hic := IC_fau h.1 h0
    have ev := FaultIs_one b2 c1
    have hwt := FI_wt hn c1
    have mc : ∀ c, c ≠ 0 → c ≠ 3 → c ≠ 4 → M' c = M c := fun c q1 q3 q2 => by rw [b3.1 c q1 q2, stM_o q3, stM_o q1, stM_o q1]
    have m3 : M' 3 = upd (M 3) k 0 := by rw [b3.1 3 (by decide) (by decide), stM_s, stM_o (by decide), stM_o (by decide)]
    have m19 : M' 0 19 = M 0 19 := by rw [b3.2 19 (by omega) (by omega) (by omega) (by omega) (by omega), stM_o (by decide), stM_s, upd_o (by decide), stM_s, upd_o (by decide)]
    have m03 : M' 0 3 = 0 := by rw [b3.2 3 (by omega) (by omega) (by omega) (by omega) (by omega), stM_o (by decide), stM_s, upd_o (by decide), stM_s, upd_s]
    have m20 : M' 0 20 = 0 := by rw [b3.2 20 (by omega) (by omega) (by omega) (by omega) (by omega), stM_o (by decide), stM_s, upd_s]
    have eu : f_GM_unlink M = some (stM (stM M 0 3 0) 0 20 0) := rfl
    simp only [↓ltE, h1, h2, i10, if_false, eu, bd, ix_nI h0 (by omega), gdE, nI_clamp (show k < 2 ^ 31 by omega), b1, ev]
    unfold f_MT_hasTwins f_MT_mark f_GS_loosen f_MA_halt f_MT_defined
    by_cases w : (f_RD_faultOf S k).1 = -2
    · have hW := hwt.mp w
      have hTO := c3 hW
      have hTX3 : TX M' k n (S.1 k 1) := TX_mf hTX2 b3
      obtain ⟨tw1, tw2⟩ := twi_s h0 hW hTX3
      have e8 : (f_RD_faultOf S k).2.1 k 0 8 = (pT (S.1 k 1) n).2.1 := hTO.2.2.2.1
      have e7 : (f_RD_faultOf S k).2.1 k 0 7 = (pT (S.1 k 1) n).1 := hTO.2.2.1
      have e8' : ∀ z, (stR (stR (stT (f_RD_faultOf S k).2 k 0 9 z) 0 5 0) 9 3 0).1 k 0 8 = (pT (S.1 k 1) n).2.1 := fun z => by
        show (stT (f_RD_faultOf S k).2 k 0 9 z).1 k 0 8 = _
        rw [stT_s, upd_o (by decide)]; exact e8
      have e7' : ∀ z, (stR (stR (stT (f_RD_faultOf S k).2 k 0 9 z) 0 5 0) 9 3 0).1 k 0 7 = (pT (S.1 k 1) n).1 := fun z => by
        show (stT (f_RD_faultOf S k).2 k 0 9 z).1 k 0 7 = _
        rw [stT_s, upd_o (by decide)]; exact e7
      simp only [bd2, w, if_pos (show (-2 : Int32) = -2 from rfl), if_true, tw2, e8, e8', e7']
      rcases tw1 with tw1 | tw1
      · have hTX4 : TX (stM M' 3 k 1) k n (S.1 k 1) := ⟨by rw [stM_o (by decide)]; exact hTX3.1, fun i hi => by rw [stM_o (by decide)]; exact hTX3.2 i hi⟩
        obtain ⟨c, M5, d1, d2, d3, d4, d5⟩ := map_s h0 hW hTX4
        simp only [tw1, i00, if_true, d1, d5 tw1]
        refine ⟨M5, rfl, IC_mono (IC_md0 (IC_R (IC_tb hic k 9 (Or.inr rfl) 1 (Or.inr rfl)) 0 5 0 rfl)) (by omega), ?_⟩
        refine RB_comp h.2.1 c2 (Or.inr rfl) (fun _ m hm em => ?_) ?_ ?_ ?_ ?_ ?_ ?_ ?_ ?_
        · have e : m = n := by rw [en] at em; exact ((nI_eq (by omega) (by omega)).mp em).symm
          subst e
          exact ⟨hW, hTO, tw1⟩
        · rw [d2.1 1 (by omega), stM_o (by decide), mc 1 (by decide) (by decide) (by decide)]
        · rw [d2.1 2 (by omega), stM_o (by decide), mc 2 (by decide) (by decide) (by decide)]
        · rw [d2.1 3 (by omega), stM_s, m3, upd_upd]
        · rw [d2.1 12 (by omega), stM_o (by decide), mc 12 (by decide) (by decide) (by decide)]
        · rw [d2.1 13 (by omega), stM_o (by decide), mc 13 (by decide) (by decide) (by decide)]
        · rw [d2.1 0 (by omega), stM_o (by decide), m19]
        · rw [d2.1 0 (by omega), stM_o (by decide), m03]
        · rw [d2.1 0 (by omega), stM_o (by decide), m20]
      · simp only [tw1, i10, if_false]
        refine ⟨M', rfl, IC_mono (IC_md0 (IC_R (IC_tb hic k 9 (Or.inr rfl) 0 (Or.inl rfl)) 0 5 0 rfl)) (by omega), ?_⟩
        exact RB_comp h.2.1 c2 (Or.inl rfl) (fun z => absurd z (by decide)) (mc 1 (by decide) (by decide) (by decide)) (mc 2 (by decide) (by decide) (by decide)) m3 (mc 12 (by decide) (by decide) (by decide)) (mc 13 (by decide) (by decide) (by decide)) m19 m03 m20
    · simp only [bd2, if_neg w]
      refine ⟨M', rfl, IC_mono (IC_md0 (IC_R (IC_tb hic k 9 (Or.inr rfl) 0 (Or.inl rfl)) 0 5 0 rfl)) (by omega), ?_⟩
      exact RB_comp h.2.1 c2 (Or.inl rfl) (fun z => absurd z (by decide)) (mc 1 (by decide) (by decide) (by decide)) (mc 2 (by decide) (by decide) (by decide)) m3 (mc 12 (by decide) (by decide) (by decide)) (mc 13 (by decide) (by decide) (by decide)) m19 m03 m20
