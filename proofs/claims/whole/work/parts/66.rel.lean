/-- what class and reference share, whatever was called -/
def RB (S : CS) (M : MS) : Prop :=
  (∀ k, k < 3 → M 2 k = S.1 k 0 6 ∧ M 3 k = S.1 k 0 9 ∧ ∀ i, i < 60 → M 1 (60 * k + i) = S.1 k 1 i) ∧
  (∀ j, j < 8 → M 12 j = S.2 8 j) ∧ (∀ j, j < 24 → M 13 j = S.2 12 j) ∧ M 0 19 = S.2 9 4 ∧ M 0 3 = S.2 0 5 ∧ bl (S.2 0 5) ∧
  (∀ k, k < 3 → S.1 k 0 9 = 1 → ∀ n, n ≤ 60 → S.1 k 0 6 = nI n → WT (S.1 k 1) n ∧ TOK (S.1 k) (S.1 k 1) n ∧ (pT (S.1 k 1) n).2.1 = 0)
/-- and of the run -/
def RL (S : CS) (M : MS) : Prop :=
  (S.2 0 5 = 1 → (∀ k, k < 3 → S.1 k 0 9 = 1) ∧ ∃ nn, LKd S M nn) ∧
  ((S.2 9 3 = 0 ∧ M 0 20 = 0) ∨ (S.2 0 5 = 1 ∧ ∃ nn L k p l, LKd S M nn ∧ Top S M nn L k p l ∧ S.1 k 1 p ≠ 125))
def Rel (N : Nat) (S : CS) (M : MS) : Prop := IC (4 * N) S ∧ RB S M ∧ RL S M
theorem RL_0 {S : CS} {M : MS} (h0 : S.2 0 5 = 0) (h9 : S.2 9 3 = 0) (hM : M 0 20 = 0) : RL S M := ⟨fun z => by rw [h0] at z; exact absurd z (by decide), Or.inl ⟨h9, hM⟩⟩
theorem len_s {N : Nat} {S : CS} {k : Nat} (hI : IC N S) (hk : k < 3) : ∃ n, n ≤ 60 ∧ S.1 k 0 6 = nI n := by
  obtain ⟨h1, h2, _⟩ := hI.1 k hk
  refine ⟨(S.1 k 0 6).toInt.toNat, by omega, Int32.toInt_inj.mp ?_⟩
  rw [nI_toInt (by omega)]; omega
theorem RB_tx {S : CS} {M : MS} (h : RB S M) {k n : Nat} (hk : k < 3) (h60 : n ≤ 60) (hn : S.1 k 0 6 = nI n) : TX M k n (S.1 k 1) := by
  obtain ⟨a1, a2, a3⟩ := h.1 k hk
  exact ⟨by rw [a1, hn], fun i hi => a3 i (by omega)⟩
theorem in_c (a : Int32) (b : Nat) (hb : b < 2 ^ 31) : (f_GM_in a 0 (nI b) = 0 ∧ ¬ (0 ≤ a.toInt ∧ a.toInt ≤ (b : Int))) ∨ (∃ k, k ≤ b ∧ a = nI k ∧ f_GM_in a 0 (nI b) = 1) := by
  rw [gm_in, nI_toInt hb]
  by_cases q : 0 ≤ a.toInt ∧ a.toInt ≤ (b : Int)
  · refine Or.inr ⟨a.toInt.toNat, by omega, Int32.toInt_inj.mp ?_, ?_⟩
    · rw [nI_toInt (by omega)]; omega
    · exact if_pos q
  · exact Or.inl ⟨if_neg q, q⟩
theorem mod_c (a : Int32) : (f_GS_isModule a = 0 ∧ f_GM_in a 0 2 = 0) ∨ (∃ k, k < 3 ∧ a = nI k ∧ f_GS_isModule a = 1 ∧ f_GM_in a 0 2 = 1) := by
  rcases in_c a 2 (by omega) with ⟨h1, h2⟩ | ⟨k, h1, rfl, h3⟩
  · refine Or.inl ⟨?_, h1⟩
    unfold f_GS_isModule
    by_cases q : a < 0
    · rw [if_pos q]
    · by_cases q2 : (3 : Int32) ≤ a
      · rw [if_neg q, if_pos q2]
      · have := i_nlt 0 rfl q
        have := i_nle 3 rfl q2
        exact absurd ⟨by omega, by omega⟩ h2
  · refine Or.inr ⟨k, by omega, rfl, ?_, h3⟩
    unfold f_GS_isModule
    rw [if_neg (nI_pos (by omega)), if_neg (n3 (by omega))]
theorem var_c (a : Int32) : (f_GS_isVariableNumber a = 0 ∧ f_GM_in a 0 7 = 0) ∨ (∃ k, k < 8 ∧ a = nI k ∧ f_GS_isVariableNumber a = 1 ∧ f_GM_in a 0 7 = 1) := by
  rcases in_c a 7 (by omega) with ⟨h1, h2⟩ | ⟨k, h1, rfl, h3⟩
  · refine Or.inl ⟨?_, h1⟩
    unfold f_GS_isVariableNumber
    by_cases q : a < 0
    · rw [if_pos q]
    · by_cases q2 : (8 : Int32) ≤ a
      · rw [if_neg q, if_pos q2]
      · have := i_nlt 0 rfl q
        have := i_nle 8 rfl q2
        exact absurd ⟨by omega, by omega⟩ h2
  · refine Or.inr ⟨k, by omega, rfl, ?_, h3⟩
    unfold f_GS_isVariableNumber
    rw [if_neg (nI_pos (by omega)), if_neg (show ¬ (8 : Int32) ≤ nI k from nI_ge (b := 8) (by omega) (by omega))]
theorem Rel_up {N : Nat} {S : CS} {M : MS} (h : Rel N S M) : Rel (N + 1) S M := ⟨IC_mono h.1 (by omega), h.2⟩
/-- running or not, as both see it -/
theorem run_c {N : Nat} {S : CS} {M : MS} (h : Rel N S M) : (f_MA_isGoing S = 0 ∧ M 0 20 = 0 ∧ S.2 9 3 = 0) ∨ (f_MA_isGoing S = 1 ∧ M 0 20 = 1 ∧ S.2 0 5 = 1 ∧ ∃ nn L k p l, LKd S M nn ∧ Top S M nn L k p l ∧ S.1 k 1 p ≠ 125) := by
  unfold f_MA_isGoing
  rcases h.2.2.2 with ⟨h1, h2⟩ | ⟨h1, nn, L, k, p, l, h2, h3, h4⟩
  · exact Or.inl ⟨by rw [h1]; rfl, h2, h1⟩
  · refine Or.inr ⟨?_, h3.2.2.2.2.2.2.1, h1, nn, L, k, p, l, h2, h3, h4⟩
    have := h3.1.2.2.2.2.1
    rw [h3.2.2.2.2.1, if_neg (nI_nle (by omega) (by omega))]
theorem s_get {N : Nat} {S : CS} {M : MS} (a : Int32) (h : Rel N S M) : ∃ M1, f_GM_get M a = some (f_GS_get S a, M1) ∧ Rel (N + 1) S M1 := by
  refine ⟨M, ?_, Rel_up h⟩
  unfold f_GM_get f_GS_get f_CA_variable
  rcases var_c a with ⟨h1, h2⟩ | ⟨k, h0, rfl, h1, h2⟩
  · simp only [↓ltE, jnE, h1, h2, i00, if_true]
  · simp only [↓ltE, jnE, h1, h2, i10, if_false, ix_nI h0 (by omega), gdE, nI_clamp (show k < 2 ^ 31 by omega), h.2.1.2.1 k h0]
theorem s_output {N : Nat} {S : CS} {M : MS} (a : Int32) (h : Rel N S M) : ∃ M1, f_GM_output M a = some (f_GS_output S a, M1) ∧ Rel (N + 1) S M1 := by
  refine ⟨M, ?_, Rel_up h⟩
  unfold f_GM_output f_GS_output f_MA_kept f_MA_hasKept
  obtain ⟨_, _, r3, r4, _⟩ := h.2.1
  rcases in_c a 23 (by omega) with ⟨h1, h2⟩ | ⟨k, h0, rfl, h1⟩
  · have h1 : f_GM_in a 0 23 = 0 := h1
    have e : (if a < 0 then (0 : Int32) else if (24 : Int32) ≤ a then 0 else if S.2 9 4 ≤ a then 0 else 1) = 0 := by
      by_cases q : a < 0
      · rw [if_pos q]
      · by_cases q2 : (24 : Int32) ≤ a
        · rw [if_neg q, if_pos q2]
        · have := i_nlt 0 rfl q
          have := i_nle 24 rfl q2
          exact absurd ⟨by omega, by omega⟩ h2
    simp only [↓ltE, jnE, h1, e, i00, if_true]
  · have h1 : f_GM_in (nI k) 0 23 = 1 := h1
    by_cases q : S.2 9 4 ≤ nI k
    · simp only [↓ltE, jnE, h1, i10, if_false, if_neg (nI_pos (show k < 2 ^ 31 by omega)), if_neg (show ¬ (24 : Int32) ≤ nI k from nI_ge (b := 24) (by omega) (by omega)), r4, if_pos q, i00, if_true]
    · simp only [↓ltE, jnE, h1, i10, if_false, if_neg (nI_pos (show k < 2 ^ 31 by omega)), if_neg (show ¬ (24 : Int32) ≤ nI k from nI_ge (b := 24) (by omega) (by omega)), r4, if_neg q, ix_nI (show k < 24 by omega) (by omega), gdE, nI_clamp (show k < 2 ^ 31 by omega), r3 k (by omega)]
theorem s_operate {N : Nat} {S : CS} {M : MS} (a b c : Int32) (h : Rel N S M) : ∃ M1, f_GM_operate M a b c = some (f_GS_operate S a b c, M1) ∧ Rel (N + 1) S M1 := by
  refine ⟨M, ?_, Rel_up h⟩
  unfold f_GM_operate f_GS_operate
  rcases in_c a 5 (by omega) with ⟨h1, h2⟩ | ⟨k, h0, rfl, h1⟩
  · have h1 : f_GM_in a 0 5 = 0 := h1
    by_cases q : a < 0
    · simp only [↓ltE, jnE, h1, i00, if_true, if_pos q]
    · by_cases q2 : a ≤ 5
      · have := i_nlt 0 rfl q
        have q3 : a.toInt ≤ 5 := by rw [Int32.le_iff_toInt_le] at q2; exact q2
        exact absurd ⟨by omega, by omega⟩ h2
      · simp only [↓ltE, jnE, h1, i00, if_true, if_neg q, if_neg q2]
  · have h1 : f_GM_in (nI k) 0 5 = 1 := h1
    simp only [↓ltE, jnE, h1, i10, if_false, if_neg (nI_pos (show k < 2 ^ 31 by omega)), if_pos (show nI k ≤ (5 : Int32) from nI_le (b := 5) h0 (by omega))]
    have : k = 0 ∨ k = 1 ∨ k = 2 ∨ k = 3 ∨ k = 4 ∨ k = 5 := by omega
    rcases this with rfl | rfl | rfl | rfl | rfl | rfl <;> rfl
theorem s_state {N : Nat} {S : CS} {M : MS} (a b : Int32) (h : Rel N S M) : ∃ M1, f_GM_state M a b = some (f_GS_state S a b, M1) ∧ Rel (N + 1) S M1 := by
  refine ⟨M, ?_, Rel_up h⟩
  unfold f_GM_state f_GS_state f_MT_length f_MT_isCompiled
  rcases mod_c a with ⟨h1, h2⟩ | ⟨k, h0, rfl, h1, h2⟩
  · simp only [↓ltE, jnE, h1, h2, i00, if_true]
  · obtain ⟨r1, r2, r3⟩ := h.2.1.1 k h0
    have r5 := h.2.1.2.2.2.2.1
    rcases in_c b 2 (by omega) with ⟨g1, g2⟩ | ⟨j, g0, rfl, g1⟩
    · have g1 : f_GM_in b 0 2 = 0 := g1
      have n0 : ¬ b = 0 := fun z => g2 (by rw [z]; decide)
      have n1 : ¬ b = 1 := fun z => g2 (by rw [z]; decide)
      have n2 : ¬ b = 2 := fun z => g2 (by rw [z]; decide)
      simp only [↓ltE, jnE, h1, h2, i10, if_false, g1, i00, if_true, if_neg n0, if_neg n1, if_neg n2]
    · have g1 : f_GM_in (nI j) 0 2 = 1 := g1
      simp only [↓ltE, jnE, h1, h2, i10, if_false, g1, ix_nI h0 (by omega), gdE, nI_clamp (show k < 2 ^ 31 by omega), r1, r2, r5]
      have : j = 0 ∨ j = 1 ∨ j = 2 := by omega
      rcases this with rfl | rfl | rfl
      · rw [if_pos (show nI 0 = 0 from rfl), if_pos (show nI 0 = 0 from rfl)]
      · rw [if_neg (show ¬ nI 1 = 0 by decide +kernel), if_pos (show nI 1 = 1 by decide +kernel), if_neg (show ¬ nI 1 = 0 by decide +kernel), if_pos (show nI 1 = 1 by decide +kernel)]
        split <;> rfl
      · rw [if_neg (show ¬ nI 2 = 0 by decide +kernel), if_neg (show ¬ nI 2 = 1 by decide +kernel), if_neg (show ¬ nI 2 = 0 by decide +kernel), if_neg (show ¬ nI 2 = 1 by decide +kernel), if_pos (show nI 2 = 2 by decide +kernel)]
        split <;> rfl
theorem s_at {N : Nat} {S : CS} {M : MS} (a : Int32) (h : Rel N S M) : ∃ M1, f_GM_at M a = some (f_GS_at S a, M1) ∧ Rel (N + 1) S M1 := by
  refine ⟨M, ?_, Rel_up h⟩
  have r4 := h.2.1.2.2.2.1
  unfold f_GM_at f_GS_at f_MA_letterCode f_MA_statementNumber f_MA_depth f_MA_outputCount
  by_cases c3 : a = 3
  · subst c3
    rw [if_pos rfl, if_neg (by decide), if_neg (by decide), if_neg (by decide), if_pos rfl, r4]
  · rw [if_neg c3]
    rcases in_c a 2 (by omega) with ⟨g1, g2⟩ | ⟨j, g0, rfl, g1⟩
    · have g1 : f_GM_in a 0 2 = 0 := g1
      have n0 : ¬ a = 0 := fun z => g2 (by rw [z]; decide)
      have n1 : ¬ a = 1 := fun z => g2 (by rw [z]; decide)
      have n2 : ¬ a = 2 := fun z => g2 (by rw [z]; decide)
      simp only [↓ltE, jnE, g1, i00, if_true, if_neg n0, if_neg n1, if_neg n2, if_neg c3]
    · have g1 : f_GM_in (nI j) 0 2 = 1 := g1
      rcases run_c h with ⟨_, h2, h3⟩ | ⟨_, h2, _, nn, L, k, p, l, hK, hT, hc⟩
      · have ct : f_MA_currentText S = 0 := by unfold f_MA_currentText; rw [h3, if_pos (by decide)]
        simp only [↓ltE, jnE, g1, i10, if_false, h2, i00, if_true, ct, h3, if_pos (show (0 : Int32) ≤ 0 by decide), if_neg c3]
        have : j = 0 ∨ j = 1 ∨ j = 2 := by omega
        rcases this with rfl | rfl | rfl <;> rfl
      · obtain ⟨⟨a1, a2, a3, a4, a5, a6⟩, t2, t3, t4, t5, t6, t7, t8⟩ := id hT
        obtain ⟨k1, k2, k3, k4, k5, k6, k7⟩ := hK.1 k a2
        have h60 := k2.1
        have hpn := a6.1
        obtain ⟨z1, z2⟩ := k7 p hpn a6.2.1 hc a6.2.2.1
        have z3 := k4.2.1 p hpn a6.2.1 hc a6.2.2.1
        rw [a6.2.2.2] at z2
        have hct := ct_s hT (by omega)
        have eN : f_MT_numberAt S k (nI p) = nI ((rr (S.1 k 1) p).2.2.2.2.2.2 + 1) := by
          unfold f_MT_numberAt
          dsimp only
          rw [ipl k1 h60 hpn, if_neg (by decide), nI_clamp (by omega)]; exact z3
        simp only [↓ltE, jnE, g1, i10, if_false, h2, hct, t4, t5, t6, ix_nI (show 60 * k + p < 180 by omega) (by omega), gdE, nI_clamp (show 60 * k + p < 2 ^ 31 by omega), z1, z2, if_neg (show ¬ k + 1 = 0 by omega), if_neg (nI_nle (show 0 < l.length + 1 by omega) (by omega)), show nI (l.length + 1) - 1 = nI l.length from nI_pred _, nI_clamp (show l.length < 2 ^ 31 by omega), t2, t3, Nat.add_sub_cancel, eN, if_neg c3]
        have : j = 0 ∨ j = 1 ∨ j = 2 := by omega
        rcases this with rfl | rfl | rfl
        · rw [if_pos (show nI 0 = 0 from rfl), if_pos (show nI 0 = 0 from rfl), Int32.add_comm]
        · rw [if_neg (show ¬ nI 1 = 0 by decide +kernel), if_pos (show nI 1 = 1 by decide +kernel), if_neg (show ¬ nI 1 = 0 by decide +kernel), if_pos (show nI 1 = 1 by decide +kernel)]
        · rw [if_neg (show ¬ nI 2 = 0 by decide +kernel), if_neg (show ¬ nI 2 = 1 by decide +kernel), if_neg (show ¬ nI 2 = 0 by decide +kernel), if_neg (show ¬ nI 2 = 1 by decide +kernel), if_pos (show nI 2 = 2 by decide +kernel)]
