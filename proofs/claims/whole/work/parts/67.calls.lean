theorem s_stop {N : Nat} {S : CS} {M : MS} (h : Rel N S M) : ∃ M1, f_GM_stop M = some ((f_GS_stop S).1, M1) ∧ Rel (N + 1) (f_GS_stop S).2 M1 := by
  unfold f_GM_stop f_GS_stop f_MA_halt
  rcases run_c h with ⟨h1, h2, h3⟩ | ⟨h1, h2, h3, nn, L, k, p, l, hK, hT, hc⟩
  · simp only [h1, h2, i00, if_true]
    exact ⟨M, rfl, Rel_up h⟩
  · simp only [↓ltE, h1, h2, i10, if_false]
    refine ⟨_, rfl, IC_mono (IC_md0 h.1) (by omega), ?_, ?_⟩
    · obtain ⟨r1, r2, r3, r4, r5, r6, r7⟩ := h.2.1
      refine ⟨fun k hk => ?_, fun j hj => ?_, fun j hj => ?_, ?_, ?_, ?_, ?_⟩
      · rw [stM_o (by decide), stM_o (by decide), stM_o (by decide)]; exact r1 k hk
      · rw [stM_o (by decide), stR_o (by decide)]; exact r2 j hj
      · rw [stM_o (by decide), stR_o (by decide)]; exact r3 j hj
      · rw [stM_s, upd_o (by decide), stR_s, upd_o (by decide)]; exact r4
      · rw [stM_s, upd_o (by decide), stR_o (by decide)]; exact r5
      · rw [stR_o (by decide)]; exact r6
      · exact r7
    · refine ⟨fun z => ?_, Or.inl ⟨by rw [stR_s, upd_s], by rw [stM_s, upd_s]⟩⟩
      rw [stR_o (by decide)] at z
      obtain ⟨q1, nn, q2⟩ := h.2.2.1 z
      exact ⟨q1, nn, LKd_k q2 (CK.st (by decide) (by decide) (by decide)) (fun c h0 _ _ _ => stM_o (by omega))⟩
theorem s_set {N : Nat} {S : CS} {M : MS} (a b : Int32) (h : Rel N S M) : ∃ M1, f_GM_set M a b = some ((f_GS_set S a b).1, M1) ∧ Rel (N + 1) (f_GS_set S a b).2 M1 := by
  unfold f_GM_set f_GS_set f_CA_assign
  rcases var_c a with ⟨h1, h2⟩ | ⟨k, h0, rfl, h1, h2⟩
  · simp only [↓ltE, h1, h2, i00, if_true]
    exact ⟨M, rfl, Rel_up h⟩
  · simp only [↓ltE, h1, h2, i10, if_false, ix_nI h0 (by omega), gdE, nI_clamp (show k < 2 ^ 31 by omega)]
    refine ⟨_, rfl, IC_mono (IC_R h.1 8 k b rfl) (by omega), ?_, ?_⟩
    · obtain ⟨r1, r2, r3, r4, r5, r6, r7⟩ := h.2.1
      refine ⟨fun k hk => ?_, fun j hj => ?_, fun j hj => ?_, ?_, ?_, ?_, r7⟩
      · rw [stM_o (by decide), stM_o (by decide), stM_o (by decide)]; exact r1 k hk
      · rw [stM_s, stR_s]
        by_cases q : j = k
        · subst q; rw [upd_s, upd_s]
        · rw [upd_o q, upd_o q]; exact r2 j hj
      · rw [stM_o (by decide), stR_o (by decide)]; exact r3 j hj
      · rw [stM_o (by decide), stR_o (by decide)]; exact r4
      · rw [stM_o (by decide), stR_o (by decide)]; exact r5
      · rw [stR_o (by decide)]; exact r6
    · have hck : CK S (stR S 8 k b) := CK.st (by decide) (by decide) (by decide)
      have hmk : MKp M (stM M 12 k b) := fun c h0 h1 _ _ => stM_o (by omega)
      refine ⟨fun z => ?_, ?_⟩
      · rw [stR_o (by decide)] at z
        obtain ⟨q1, nn, q2⟩ := h.2.2.1 z
        exact ⟨q1, nn, LKd_k q2 hck hmk⟩
      · rcases h.2.2.2 with ⟨g1, g2⟩ | ⟨g1, nn, L, k', p, l, g2, g3, g4⟩
        · exact Or.inl ⟨by rw [stR_o (by decide)]; exact g1, by rw [stM_o (by decide)]; exact g2⟩
        · exact Or.inr ⟨by rw [stR_o (by decide)]; exact g1, nn, L, k', p, l, LKd_k g2 hck hmk, Top_k g3 hck (stR_o (by decide)) (stR_o (by decide)) (by rw [stR_o (by decide)]) (stM_o (by decide)) (by rw [stM_o (by decide)]) (by rw [stM_o (by decide)]) (by rw [stM_o (by decide)]), g4⟩
theorem s_clear {N : Nat} {S : CS} {M : MS} (a : Int32) (h : Rel N S M) : ∃ M1, f_GM_clear M a = some ((f_GS_clear S a).1, M1) ∧ Rel (N + 1) (f_GS_clear S a).2 M1 := by
  unfold f_GM_clear f_GS_clear f_GM_unlink f_MT_empty f_MT_forget f_GS_loosen f_MA_halt
  rcases mod_c a with ⟨h1, h2⟩ | ⟨k, h0, rfl, h1, h2⟩
  · simp only [↓ltE, h1, h2, i00, if_true]
    exact ⟨M, rfl, Rel_up h⟩
  · simp only [↓ltE, h1, h2, i10, if_false, ix_nI h0 (by omega), gdE, nI_clamp (show k < 2 ^ 31 by omega), bd]
    refine ⟨_, rfl, IC_mono (IC_md0 (IC_R (IC_tb (IC_tb (IC_T7 (IC_tl0 h.1 k) k 0) k 8 (Or.inl rfl) 0 (Or.inl rfl)) k 9 (Or.inr rfl) 1 (Or.inr rfl)) 0 5 0 rfl)) (by omega), ?_, RL_0 ?_ ?_ ?_⟩
    · obtain ⟨r1, r2, r3, r4, r5, r6, r7⟩ := h.2.1
      refine ⟨fun j hj => ?_, fun j hj => ?_, fun j hj => ?_, ?_, ?_, ?_, fun j hj z n hn z2 => ?_⟩
      · obtain ⟨q1, q2, q3⟩ := r1 j hj
        rw [stM_o (by decide), stM_o (by decide), stM_o (by decide), stM_s, stM_o (by decide), stM_o (by decide), stM_s, stM_o (by decide), stM_o (by decide), stM_o (by decide), stM_o (by decide), stM_o (by decide)]
        show _ = (stT (stT (stT (stT S k 0 6 0) k 0 7 0) k 0 8 0) k 0 9 1).1 j 0 6 ∧ _ = (stT (stT (stT (stT S k 0 6 0) k 0 7 0) k 0 8 0) k 0 9 1).1 j 0 9 ∧ ∀ i, i < 60 → _ = (stT (stT (stT (stT S k 0 6 0) k 0 7 0) k 0 8 0) k 0 9 1).1 j 1 i
        by_cases q : j = k
        · subst q
          refine ⟨?_, ?_, fun i hi => ?_⟩
          · rw [upd_s, stT_s, upd_o (by decide), stT_s, upd_o (by decide), stT_s, upd_o (by decide), stT_s, upd_s]
          · rw [upd_s, stT_s, upd_s]
          · rw [stT_o (by decide), stT_o (by decide), stT_o (by decide), stT_o (by decide)]; exact q3 i hi
        · refine ⟨?_, ?_, fun i hi => ?_⟩
          · rw [upd_o q, stT_k q, stT_k q, stT_k q, stT_k q]; exact q1
          · rw [upd_o q, stT_k q, stT_k q, stT_k q, stT_k q]; exact q2
          · rw [stT_k q, stT_k q, stT_k q, stT_k q]; exact q3 i hi
      · rw [stM_o (by decide), stM_o (by decide), stM_o (by decide), stM_o (by decide), stR_o (by decide), stR_o (by decide)]; exact r2 j hj
      · rw [stM_o (by decide), stM_o (by decide), stM_o (by decide), stM_o (by decide), stR_o (by decide), stR_o (by decide)]; exact r3 j hj
      · rw [stM_s, upd_o (by decide), stM_s, upd_o (by decide), stM_o (by decide), stM_o (by decide), stR_s, upd_o (by decide), stR_o (by decide)]; exact r4
      · rw [stM_s, upd_o (by decide), stM_s, upd_s, stR_o (by decide), stR_s, upd_s]
      · rw [stR_o (by decide), stR_s, upd_s]; exact Or.inl rfl
      · have z : (stT (stT (stT (stT S k 0 6 0) k 0 7 0) k 0 8 0) k 0 9 1).1 j 0 9 = 1 := z
        have z2 : (stT (stT (stT (stT S k 0 6 0) k 0 7 0) k 0 8 0) k 0 9 1).1 j 0 6 = nI n := z2
        show WT ((stT (stT (stT (stT S k 0 6 0) k 0 7 0) k 0 8 0) k 0 9 1).1 j 1) n ∧ TOK ((stT (stT (stT (stT S k 0 6 0) k 0 7 0) k 0 8 0) k 0 9 1).1 j) ((stT (stT (stT (stT S k 0 6 0) k 0 7 0) k 0 8 0) k 0 9 1).1 j 1) n ∧ (pT ((stT (stT (stT (stT S k 0 6 0) k 0 7 0) k 0 8 0) k 0 9 1).1 j 1) n).2.1 = 0
        by_cases q : j = k
        · subst q
          rw [stT_s, upd_o (by decide), stT_s, upd_o (by decide), stT_s, upd_o (by decide), stT_s, upd_s] at z2
          have e0 : n = 0 := ((nI_eq (a := 0) (b := n) (by omega) (by omega)).mp z2).symm
          subst e0
          refine ⟨⟨by omega, r_0, rfl, rfl⟩, ⟨fun q hq => by omega, fun q hq => by omega, ?_, ?_, fun L _ hb => ?_⟩, rfl⟩
          · rw [stT_s, upd_o (by decide), stT_s, upd_o (by decide), stT_s, upd_s]; rfl
          · rw [stT_s, upd_o (by decide), stT_s, upd_s]; rfl
          · rw [show (pT ((stT (stT (stT (stT S j 0 6 0) j 0 7 0) j 0 8 0) j 0 9 1).1 j 1) 0).1 = 0 from rfl, bt_0] at hb; exact absurd hb (by decide)
        · rw [stT_k q, stT_k q, stT_k q, stT_k q] at z z2 ⊢
          exact r7 j hj z n hn z2
    · rw [stR_o (by decide), stR_s, upd_s]
    · rw [stR_s, upd_s]
    · rw [stM_s, upd_s]
theorem s_sign {N : Nat} {S : CS} {M : MS} (a b : Int32) (h : Rel N S M) : ∃ M1, f_GM_sign M a b = some ((f_GS_sign S a b).1, M1) ∧ Rel (N + 1) (f_GS_sign S a b).2 M1 := by
  unfold f_GM_sign f_GS_sign f_GM_unlink f_MT_append f_GS_loosen f_MA_halt f_MT_length
  rcases mod_c a with ⟨h1, h2⟩ | ⟨k, h0, rfl, h1, h2⟩
  · simp only [↓ltE, jnE, h1, h2, i00, if_true]
    exact ⟨M, rfl, Rel_up h⟩
  · obtain ⟨n, hn, en⟩ := len_s h.1 h0
    obtain ⟨r1, r2, r3, r4, r5, r6, r7⟩ := h.2.1
    obtain ⟨q1, q2, q3⟩ := r1 k h0
    by_cases c1 : b < 33
    · have g1 : f_GM_in b 33 126 = 0 := by
        rw [gm_in, if_neg]
        intro z
        have := i_lt 33 rfl c1
        have := z.1
        rw [show (33 : Int32).toInt = 33 from rfl] at this
        omega
      simp only [↓ltE, jnE, h1, h2, i10, if_false, g1, i00, if_true, if_pos c1]
      exact ⟨M, rfl, Rel_up h⟩
    · by_cases c2 : b ≤ 126
      · have g1 : f_GM_in b 33 126 = 1 := by
          rw [gm_in, if_pos ⟨i_nlt 33 rfl c1, by rw [Int32.le_iff_toInt_le] at c2; exact c2⟩]
        by_cases c3 : n < 60
        · have x1 : 60 * k + n < 180 := by omega
          have ne60 : ¬ nI n = 60 := fun z => by have := (nI_eq (a := n) (b := 60) (by omega) (by omega)).mp z; omega
          have s2 : ∀ v, stM M 1 (60 * k + n) v 2 k = nI n := fun v => by rw [stM_o (by decide), q1, en]
          have t6 : (stT S k 1 n b).1 k 0 6 = nI n := by rw [stT_o (by decide)]; exact en
          simp only [↓ltE, jnE, h1, h2, i10, if_false, g1, if_neg c1, if_pos c2, ix_nI h0 (by omega), gdE, nI_clamp (show k < 2 ^ 31 by omega), q1, en, if_neg ne60, n60, nI_add, ix_nI x1 (by omega), nI_clamp (show 60 * k + n < 2 ^ 31 by omega), s2, nI_1, bd, if_pos (show nI n < (60 : Int32) from nI_lt (b := 60) c3 (by omega)), nI_clamp (show n < 2 ^ 31 by omega), t6]
          have eM : stM (stM (stM (stM (stM M 1 (60 * k + n) b) 2 k (nI (n + 1))) 3 k 0) 0 3 0) 0 20 0 2 k = nI (n + 1) := by rw [stM_o (by decide), stM_o (by decide), stM_o (by decide), stM_s, upd_s]
          have eS : (stR (stR (stT (stT (stT S k 1 n b) k 0 6 (nI (n + 1))) k 0 9 0) 0 5 0) 9 3 0).1 k 0 6 = nI (n + 1) := by
            show (stT (stT (stT S k 1 n b) k 0 6 (nI (n + 1))) k 0 9 0).1 k 0 6 = _
            rw [stT_s, upd_o (by decide), stT_s, upd_s]
          refine ⟨stM (stM (stM (stM (stM M 1 (60 * k + n) b) 2 k (nI (n + 1))) 3 k 0) 0 3 0) 0 20 0, by rw [eM, eS], IC_mono (IC_md0 (IC_R (IC_tb (IC_tl (IC_T h.1 k 1 n b (by decide)) k (nI (n + 1)) (by rw [nI_toInt (by omega)]; omega) (by rw [nI_toInt (by omega)]; omega)) k 9 (Or.inr rfl) 0 (Or.inl rfl)) 0 5 0 rfl)) (by omega), ?_, RL_0 ?_ ?_ ?_⟩
          · refine ⟨fun j hj => ?_, fun j hj => ?_, fun j hj => ?_, ?_, ?_, ?_, fun j hj z m hm z2 => ?_⟩
            · obtain ⟨p1, p2, p3⟩ := r1 j hj
              rw [stM_o (by decide), stM_o (by decide), stM_o (by decide), stM_s, stM_o (by decide), stM_o (by decide), stM_o (by decide), stM_s, stM_o (by decide), stM_o (by decide), stM_o (by decide), stM_o (by decide), stM_o (by decide), stM_o (by decide), stM_s]
              show _ = (stT (stT (stT S k 1 n b) k 0 6 (nI (n + 1))) k 0 9 0).1 j 0 6 ∧ _ = (stT (stT (stT S k 1 n b) k 0 6 (nI (n + 1))) k 0 9 0).1 j 0 9 ∧ ∀ i, i < 60 → _ = (stT (stT (stT S k 1 n b) k 0 6 (nI (n + 1))) k 0 9 0).1 j 1 i
              by_cases q : j = k
              · subst q
                refine ⟨?_, ?_, fun i hi => ?_⟩
                · rw [upd_s, stT_s, upd_o (by decide), stT_s, upd_s]
                · rw [upd_s, stT_s, upd_s]
                · rw [stT_o (by decide), stT_o (by decide), stT_s]
                  by_cases y : i = n
                  · subst y; rw [upd_s, upd_s]
                  · rw [upd_o (by omega), upd_o y]; exact p3 i hi
              · refine ⟨?_, ?_, fun i hi => ?_⟩
                · rw [upd_o q, stT_k q, stT_k q, stT_k q]; exact p1
                · rw [upd_o q, stT_k q, stT_k q, stT_k q]; exact p2
                · rw [stT_k q, stT_k q, stT_k q, upd_o (by omega)]; exact p3 i hi
            · rw [stM_o (by decide), stM_o (by decide), stM_o (by decide), stM_o (by decide), stM_o (by decide), stR_o (by decide), stR_o (by decide)]; exact r2 j hj
            · rw [stM_o (by decide), stM_o (by decide), stM_o (by decide), stM_o (by decide), stM_o (by decide), stR_o (by decide), stR_o (by decide)]; exact r3 j hj
            · rw [stM_s, upd_o (by decide), stM_s, upd_o (by decide), stM_o (by decide), stM_o (by decide), stM_o (by decide), stR_s, upd_o (by decide), stR_o (by decide)]; exact r4
            · rw [stM_s, upd_o (by decide), stM_s, upd_s, stR_o (by decide), stR_s, upd_s]
            · rw [stR_o (by decide), stR_s, upd_s]; exact Or.inl rfl
            · have z : (stT (stT (stT S k 1 n b) k 0 6 (nI (n + 1))) k 0 9 0).1 j 0 9 = 1 := z
              have z2 : (stT (stT (stT S k 1 n b) k 0 6 (nI (n + 1))) k 0 9 0).1 j 0 6 = nI m := z2
              show WT ((stT (stT (stT S k 1 n b) k 0 6 (nI (n + 1))) k 0 9 0).1 j 1) m ∧ TOK ((stT (stT (stT S k 1 n b) k 0 6 (nI (n + 1))) k 0 9 0).1 j) ((stT (stT (stT S k 1 n b) k 0 6 (nI (n + 1))) k 0 9 0).1 j 1) m ∧ (pT ((stT (stT (stT S k 1 n b) k 0 6 (nI (n + 1))) k 0 9 0).1 j 1) m).2.1 = 0
              by_cases q : j = k
              · subst q
                rw [stT_s, upd_s] at z
                exact absurd z (by decide)
              · rw [stT_k q, stT_k q, stT_k q] at z z2 ⊢
                exact r7 j hj z m hm z2
          · rw [stR_o (by decide), stR_s, upd_s]
          · rw [stR_s, upd_s]
          · rw [stM_s, upd_s]
        · have e60 : nI n = 60 := by rw [show n = 60 by omega]; decide +kernel
          have n60' : ¬ nI n < (60 : Int32) := by rw [e60]; decide
          simp only [↓ltE, jnE, h1, h2, i10, if_false, g1, if_neg c1, if_pos c2, ix_nI h0 (by omega), gdE, nI_clamp (show k < 2 ^ 31 by omega), q1, en, if_pos e60, if_neg n60', i00, if_true]
          exact ⟨M, rfl, Rel_up h⟩
      · have g1 : f_GM_in b 33 126 = 0 := by
          rw [gm_in, if_neg]
          intro z
          exact c2 (by rw [Int32.le_iff_toInt_le]; exact z.2)
        simp only [↓ltE, jnE, h1, h2, i10, if_false, g1, i00, if_true, if_neg c1, if_neg c2]
        exact ⟨M, rfl, Rel_up h⟩
