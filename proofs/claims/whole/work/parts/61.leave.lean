theorem ipl {S : CS} {k p n : Nat} (hn : S.1 k 0 6 = nI n) (h60 : n ≤ 60) (hp : p < n) : f_MT_isPlace S k (nI p) = 1 := by
  unfold f_MT_isPlace
  rw [if_neg (nI_pos (by omega)), hn, if_neg (nI_ge hp (by omega))]
theorem ho_s {S : CS} {L k : Nat} (hL : L < 26) (hk : k < 3) (h : S.2 5 L = nI (k + 1)) : f_PR_homeOf S (nI L) = k + 1 := by
  unfold f_PR_homeOf
  dsimp only
  rw [isLn hL, if_neg (by decide), nI_clamp (by omega), h]
  show (nI (k + 1)).toNatClampNeg = _
  rw [nI_clamp (by omega)]
theorem ct_s {S : CS} {M : MS} {nn : Nat → Nat} {L k p : Nat} {l : FLs} (h : Top S M nn L k p l) (hl : l.length < 26) : f_MA_currentText S = k + 1 := by
  obtain ⟨⟨a1, a2, a3, a4, a5, a6⟩, h2, h3, h4, h5, h6, h7, h8⟩ := h
  unfold f_MA_currentText
  rw [h5, if_neg (nI_nle (by omega) (by omega))]
  dsimp only
  rw [nI_pred, nI_clamp (by omega), h2, ho_s a1 a2 a4]
def SF (S R : CS) : Prop := R.1 = S.1 ∧ (∀ c, c ≠ 9 → c ≠ 11 → R.2 c = S.2 c) ∧ (∀ i, i ≠ 3 → R.2 9 i = S.2 9 i)
def MFs (M M' : MS) : Prop := (∀ c, c ≠ 0 → M' c = M c) ∧ (∀ i, i ≠ 20 → i ≠ 21 → i ≠ 23 → M' 0 i = M 0 i)
theorem SF.rf {S : CS} : SF S S := ⟨rfl, fun _ _ _ => rfl, fun _ _ => rfl⟩
theorem SF.tr {S S1 S2 : CS} (h : SF S S1) (g : SF S1 S2) : SF S S2 := ⟨g.1.trans h.1, fun c a b => (g.2.1 c a b).trans (h.2.1 c a b), fun i a => (g.2.2 i a).trans (h.2.2 i a)⟩
theorem SF.s11 (S : CS) (i : Nat) (v : Int32) : SF S (stR S 11 i v) := ⟨rfl, fun _ _ b => stR_o b, fun i _ => by rw [stR_o (by decide)]⟩
theorem SF.s93 (S : CS) (v : Int32) : SF S (stR S 9 3 v) := ⟨rfl, fun _ a _ => stR_o a, fun i a => by rw [stR_s, upd_o a]⟩
theorem SF.ck {S R : CS} (h : SF S R) : CK S R := ⟨h.1, h.2.1 4 (by decide) (by decide), h.2.1 5 (by decide) (by decide), h.2.1 6 (by decide) (by decide)⟩
theorem MFs.rf {M : MS} : MFs M M := ⟨fun _ _ => rfl, fun _ _ _ _ => rfl⟩
theorem MFs.tr {M M1 M2 : MS} (h : MFs M M1) (g : MFs M1 M2) : MFs M M2 := ⟨fun c a => (g.1 c a).trans (h.1 c a), fun i a b c => (g.2 i a b c).trans (h.2 i a b c)⟩
theorem MFs.st (M : MS) {i : Nat} (v : Int32) (hi : i = 20 ∨ i = 21 ∨ i = 23) : MFs M (stM M 0 i v) := ⟨fun _ a => stM_o a, fun j a b c => by rw [stM_s, upd_o (by omega)]⟩
theorem MFs.mk {M M' : MS} (h : MFs M M') : MKp M M' := fun c a _ _ _ => h.1 c (by omega)
theorem Top_mv {S : CS} {M : MS} {nn : Nat → Nat} {L k p p' : Nat} {l : FLs} (h : Top S M nn L k p l) (hp : PF (S.1 k 1) (nn k) p' L) : Top (stR S 11 l.length (nI p')) (stM M 0 21 (nI (60 * k + p'))) nn L k p' l := by
  obtain ⟨⟨a1, a2, a3, a4, a5, a6⟩, h2, h3, h4, h5, h6, h7, h8⟩ := h
  have c := SF.ck (SF.s11 S l.length (nI p'))
  refine ⟨FrOK_k ⟨a1, a2, a3, a4, a5, hp⟩ c, by rw [stR_o (by decide)]; exact h2, by rw [stR_s, upd_s], by rw [stM_s, upd_s], by rw [stR_o (by decide)]; exact h5, by rw [stM_s, upd_o (by decide)]; exact h6, by rw [stM_s, upd_o (by decide)]; exact h7, LF_k c h8 fun i hi => ⟨by rw [stR_o (by decide)], by rw [stR_s, upd_o (by omega)], by rw [stM_o (by decide)]⟩⟩
section
variable {t : Nat → Int32} {k n p f a2 : Nat} {M : MS}
abbrev sK : MS → Option MS := fun S => some S
theorem se_n (hk : k < 3) (h60 : n ≤ 60) (hp : p < n) (hT : TX M k n t) (h20 : M 0 20 = 1) (h21 : M 0 21 = nI (60 * k + p)) (hc : t p ≠ 125) : q_GM_settle_0 (f + 1) M sK = some M := by
  rw [q_GM_settle_0]
  simp only [↓ltE, jnE, h20, i10, if_false, h21, ix_nI (show 60 * k + p < 180 by omega) (by omega), gdE, nI_clamp (show 60 * k + p < 2 ^ 31 by omega), hT.2 p hp, if_neg hc]
theorem se_6 (hk : k < 3) (h60 : n ≤ 60) (hp : p < n) (hT : TX M k n t) (h20 : M 0 20 = 1) (h21 : M 0 21 = nI (60 * k + p)) (hc : t p = 125) (ha : a2 < n) (h5 : M 5 (60 * k + p) = nI (60 * k + a2)) (h7 : M 7 (60 * k + a2) = 6) : q_GM_settle_0 (f + 1) M sK = q_GM_settle_0 f (stM M 0 21 (M 6 (60 * k + a2))) sK := by
  rw [q_GM_settle_0]
  simp only [↓ltE, jnE, h20, i10, if_false, h21, ix_nI (show 60 * k + p < 180 by omega) (by omega), gdE, nI_clamp (show 60 * k + p < 2 ^ 31 by omega), hT.2 p hp, if_pos hc, h5, ix_nI (show 60 * k + a2 < 180 by omega) (by omega), nI_clamp (show 60 * k + a2 < 2 ^ 31 by omega), h7, if_pos (show (6 : Int32) = 6 from rfl), if_true]
theorem se_45 {v : Int32} (hk : k < 3) (h60 : n ≤ 60) (hp : p + 1 < n) (hT : TX M k n t) (h20 : M 0 20 = 1) (h21 : M 0 21 = nI (60 * k + p)) (hc : t p = 125) (ha : a2 < n) (h5 : M 5 (60 * k + p) = nI (60 * k + a2)) (h7 : M 7 (60 * k + a2) = v) (hv : v = 4 ∨ v = 5) (h58 : t (p + 1) ≠ 58) : q_GM_settle_0 (f + 1) M sK = q_GM_settle_0 f (stM M 0 21 (nI (60 * k + (p + 1)))) sK := by
  have r1 : stM M 0 21 (nI (60 * k + (p + 1))) 0 21 = nI (60 * k + (p + 1)) := by rw [stM_s, upd_s]
  have r2 : stM M 0 21 (nI (60 * k + (p + 1))) 1 = M 1 := stM_o (by decide)
  rw [q_GM_settle_0]
  simp only [↓ltE, jnE, h20, i10, if_false, h21, ix_nI (show 60 * k + p < 180 by omega) (by omega), gdE, nI_clamp (show 60 * k + p < 2 ^ 31 by omega), hT.2 p (by omega), if_pos hc, h5, ix_nI (show 60 * k + a2 < 180 by omega) (by omega), nI_clamp (show 60 * k + a2 < 2 ^ 31 by omega), h7, nI_1, Nat.add_assoc, r1, r2, ix_nI (show 60 * k + (p + 1) < 180 by omega) (by omega), nI_clamp (show 60 * k + (p + 1) < 2 ^ 31 by omega), hT.2 (p + 1) hp, if_neg h58]
  rcases hv with rfl | rfl
  · rw [if_neg (by decide), if_pos rfl, if_pos rfl]
  · rw [if_neg (by decide), if_neg (by decide), if_pos rfl, if_neg (by decide)]
theorem se_4 (hk : k < 3) (h60 : n ≤ 60) (hp : p + 2 < n) (hT : TX M k n t) (h20 : M 0 20 = 1) (h21 : M 0 21 = nI (60 * k + p)) (hc : t p = 125) (ha : a2 < n) (h5 : M 5 (60 * k + p) = nI (60 * k + a2)) (h7 : M 7 (60 * k + a2) = 4) (h58 : t (p + 1) = 58) : q_GM_settle_0 (f + 1) M sK = q_GM_settle_0 f (stM M 0 21 (M 5 (60 * k + (p + 2)) + 1)) sK := by
  have r1 : stM M 0 21 (nI (60 * k + (p + 1))) 0 21 = nI (60 * k + (p + 1)) := by rw [stM_s, upd_s]
  have r2 : stM M 0 21 (nI (60 * k + (p + 1))) 1 = M 1 := stM_o (by decide)
  have r3 : stM M 0 21 (nI (60 * k + (p + 1))) 5 = M 5 := stM_o (by decide)
  rw [q_GM_settle_0]
  simp only [↓ltE, jnE, h20, i10, if_false, h21, ix_nI (show 60 * k + p < 180 by omega) (by omega), gdE, nI_clamp (show 60 * k + p < 2 ^ 31 by omega), hT.2 p (by omega), if_pos hc, h5, ix_nI (show 60 * k + a2 < 180 by omega) (by omega), nI_clamp (show 60 * k + a2 < 2 ^ 31 by omega), h7, nI_1, Nat.add_assoc, r1, r2, r3, ix_nI (show 60 * k + (p + 1) < 180 by omega) (by omega), nI_clamp (show 60 * k + (p + 1) < 2 ^ 31 by omega), hT.2 (p + 1) (by omega), if_pos h58, if_neg (show ¬ (4 : Int32) = 6 by decide), if_pos (show (4 : Int32) = 4 from rfl), if_true, stM_stM, ix_nI (show 60 * k + (p + (1 + 1)) < 180 by omega) (by omega), nI_clamp (show 60 * k + (p + (1 + 1)) < 2 ^ 31 by omega)]
theorem se_30 (hk : k < 3) (h60 : n ≤ 60) (hp : p < n) (hT : TX M k n t) (h20 : M 0 20 = 1) (h21 : M 0 21 = nI (60 * k + p)) (hc : t p = 125) (ha : a2 < n) (h5 : M 5 (60 * k + p) = nI (60 * k + a2)) (h7 : M 7 (60 * k + a2) = 3) (h23 : M 0 23 = nI 1) : q_GM_settle_0 (f + 1) M sK = q_GM_settle_0 f (stM (stM M 0 23 0) 0 20 0) sK := by
  have r1 : stM M 0 23 0 0 23 = 0 := by rw [stM_s, upd_s]
  rw [q_GM_settle_0]
  simp only [↓ltE, jnE, h20, i10, if_false, h21, ix_nI (show 60 * k + p < 180 by omega) (by omega), gdE, nI_clamp (show 60 * k + p < 2 ^ 31 by omega), hT.2 p hp, if_pos hc, h5, ix_nI (show 60 * k + a2 < 180 by omega) (by omega), nI_clamp (show 60 * k + a2 < 2 ^ 31 by omega), h7, if_neg (show ¬ (3 : Int32) = 6 by decide), if_neg (show ¬ (3 : Int32) = 4 by decide), if_neg (show ¬ (3 : Int32) = 5 by decide), h23, show nI 1 - 1 = 0 from nI_pred 0, r1, i00, if_true]
theorem se_31 {d : Nat} (hk : k < 3) (h60 : n ≤ 60) (hp : p < n) (hT : TX M k n t) (h20 : M 0 20 = 1) (h21 : M 0 21 = nI (60 * k + p)) (hc : t p = 125) (ha : a2 < n) (h5 : M 5 (60 * k + p) = nI (60 * k + a2)) (h7 : M 7 (60 * k + a2) = 3) (h23 : M 0 23 = nI (d + 1 + 1)) (hd : d < 26) : q_GM_settle_0 (f + 1) M sK = q_GM_settle_0 f (stM (stM M 0 23 (nI (d + 1))) 0 21 (M 14 d)) sK := by
  have r1 : stM M 0 23 (nI (d + 1)) 0 23 = nI (d + 1) := by rw [stM_s, upd_s]
  have r2 : stM M 0 23 (nI (d + 1)) 14 = M 14 := stM_o (by decide)
  rw [q_GM_settle_0]
  simp only [↓ltE, jnE, h20, i10, if_false, h21, ix_nI (show 60 * k + p < 180 by omega) (by omega), gdE, nI_clamp (show 60 * k + p < 2 ^ 31 by omega), hT.2 p hp, if_pos hc, h5, ix_nI (show 60 * k + a2 < 180 by omega) (by omega), nI_clamp (show 60 * k + a2 < 2 ^ 31 by omega), h7, if_neg (show ¬ (3 : Int32) = 6 by decide), if_neg (show ¬ (3 : Int32) = 4 by decide), if_neg (show ¬ (3 : Int32) = 5 by decide), h23, nI_pred, r1, r2, if_neg (nI_ne0 (show 0 < d + 1 by omega) (by omega)), ix_nI hd (by omega), nI_clamp (show d < 2 ^ 31 by omega)]
theorem se_0 (h20 : M 0 20 = 0) : q_GM_settle_0 (f + 1) M sK = some M := by
  rw [q_GM_settle_0]
  simp only [h20, i00, if_true]
end
theorem lv_0 {S : CS} {f : Nat} {y : Int32} (h : S.2 9 3 = 0) : q_MA_leaveEndedBlocks_2 (f + 1) S y = S := by
  rw [q_MA_leaveEndedBlocks_2]
  have : f_MA_currentText S = 0 := by
    unfold f_MA_currentText
    rw [h, if_pos (by decide)]
  rw [if_pos this, ite_self]
theorem lv_s {S : CS} {M : MS} {nn : Nat → Nat} {L k p : Nat} {l : FLs} {f y : Nat} (hT : Top S M nn L k p l) (hn : S.1 k 0 6 = nI (nn k)) (h60 : nn k ≤ 60) (hp : p < nn k) (hl : l.length < 26) (hy : y < 156) : q_MA_leaveEndedBlocks_2 (f + 1) S (nI y) = if S.1 k 1 p = 125 then (if f_MT_endsProcedure S k (nI p) = 0 then q_MA_leaveEndedBlocks_2 f (stR S 11 l.length (f_MT_behindBlock S k (nI p))) (nI (y + 1)) else q_MA_leaveEndedBlocks_2 f (stR S 9 3 (nI l.length)) (nI (y + 1))) else S := by
  rw [q_MA_leaveEndedBlocks_2, if_neg (show ¬ (156 : Int32) ≤ nI y from nI_ge (b := 156) hy (by omega)), ct_s hT hl, if_neg (by omega)]
  dsimp only
  obtain ⟨_, h2, h3, h4, h5, _⟩ := hT
  rw [h5, nI_pred, nI_clamp (by omega), h3, Nat.add_sub_cancel, sgn hn h60 hp, nI_1]
theorem set_q {nn : Nat → Nat} : ∀ (f f2 y : Nat) (S : CS) (M : MS) (L k p : Nat) (l : FLs), LKd S M nn → Top S M nn L k p l → y + (nst S.1 k p + nsum S.1 l) ≤ 156 → 156 < y + f → nst S.1 k p + nsum S.1 l < f2 →
    ∃ M', q_GM_settle_0 f2 M sK = some M' ∧ SF S (q_MA_leaveEndedBlocks_2 f S (nI y)) ∧ MFs M M' ∧ (((q_MA_leaveEndedBlocks_2 f S (nI y)).2 9 3 = 0 ∧ M' 0 20 = 0) ∨ ∃ L k p l, Top (q_MA_leaveEndedBlocks_2 f S (nI y)) M' nn L k p l ∧ (q_MA_leaveEndedBlocks_2 f S (nI y)).1 k 1 p ≠ 125) := by
  intro f
  induction f with
  | zero => intro f2 y S M L k p l _ _ h1 h2; omega
  | succ f ih =>
    intro f2 y S M L k p l hK hT hy hf hf2
    have hF := hT.1
    obtain ⟨n1, n2⟩ := nst_b hK hF
    have hF' := hF
    obtain ⟨a1, a2, a3, a4, a5, a6⟩ := hF'
    obtain ⟨k1, k2, k3, k4, k5, k6, k7⟩ := hK.1 k a2
    have h60 := k2.1
    have hl : l.length < 26 := by omega
    have hpn := a6.1
    obtain ⟨f3, rfl⟩ : ∃ f3, f2 = f3 + 1 := ⟨f2 - 1, by omega⟩
    obtain ⟨_, t2, t3, t4, t5, t6, t7, t8⟩ := id hT
    rw [lv_s hT k1 h60 a6.1 hl (by omega)]
    by_cases c : S.1 k 1 p = 125
    · rw [if_pos c]
      obtain ⟨a, s, b1, b2, b3, b4⟩ := leaves k2 a6 c
      obtain ⟨o1, o2⟩ := k4.1 p a6.1 c a6.2.1 a s b1
      obtain ⟨p1, p2, p3, p4⟩ := k6 p a6.1 c a6.2.1 a s b1
      have hlen : nst S.1 k p = s.length + 1 := by unfold nst; rw [b1]; rfl
      have eE : f_MT_endsProcedure S k (nI p) = if f_GS_isLetter (S.1 k 1 a.1) = 0 then 0 else 1 := by
        unfold f_MT_endsProcedure
        dsimp only
        rw [ipl k1 h60 a6.1, if_neg (by decide), nI_clamp (by omega), o1, sgn k1 h60 b2]
      have eB : ∀ p', p' < nn k → S.1 k 1 a.1 ≠ 64 → f_MT_behindBlock S k (nI p) = (if f_MT_signAt S k (nI (p + 1)) = 58 then f_MT_behindEndOf S k (nI (p + 1)) else nI (p + 1)) := fun p' _ h64 => by
        unfold f_MT_behindBlock
        dsimp only
        rw [ipl k1 h60 a6.1, if_neg (by decide), nI_clamp (by omega), o1, sgn k1 h60 b2, if_neg h64, nI_1]
      have go : ∀ p', PF (S.1 k 1) (nn k) p' L → (rr (S.1 k 1) p').1 = s → f_MT_behindBlock S k (nI p) = nI p' → ¬ isL (S.1 k 1 a.1) → q_GM_settle_0 (f3 + 1) M sK = q_GM_settle_0 f3 (stM M 0 21 (nI (60 * k + p'))) sK → ∃ M', q_GM_settle_0 (f3 + 1) M sK = some M' ∧ SF S (if f_MT_endsProcedure S k (nI p) = 0 then q_MA_leaveEndedBlocks_2 f (stR S 11 l.length (f_MT_behindBlock S k (nI p))) (nI (y + 1)) else q_MA_leaveEndedBlocks_2 f (stR S 9 3 (nI l.length)) (nI (y + 1))) ∧ MFs M M' ∧ (((if f_MT_endsProcedure S k (nI p) = 0 then q_MA_leaveEndedBlocks_2 f (stR S 11 l.length (f_MT_behindBlock S k (nI p))) (nI (y + 1)) else q_MA_leaveEndedBlocks_2 f (stR S 9 3 (nI l.length)) (nI (y + 1))).2 9 3 = 0 ∧ M' 0 20 = 0) ∨ ∃ L k' p'' l', Top (if f_MT_endsProcedure S k (nI p) = 0 then q_MA_leaveEndedBlocks_2 f (stR S 11 l.length (f_MT_behindBlock S k (nI p))) (nI (y + 1)) else q_MA_leaveEndedBlocks_2 f (stR S 9 3 (nI l.length)) (nI (y + 1))) M' nn L k' p'' l' ∧ (if f_MT_endsProcedure S k (nI p) = 0 then q_MA_leaveEndedBlocks_2 f (stR S 11 l.length (f_MT_behindBlock S k (nI p))) (nI (y + 1)) else q_MA_leaveEndedBlocks_2 f (stR S 9 3 (nI l.length)) (nI (y + 1))).1 k' 1 p'' ≠ 125) := by
        intro p' hp' hs' hb nL hq
        have e0 : f_MT_endsProcedure S k (nI p) = 0 := by rw [eE, if_pos ((gs_L _).1.mpr nL)]
        rw [if_pos e0, hb, hq]
        have s1 := SF.s11 S l.length (nI p')
        have m1 := MFs.st M (nI (60 * k + p')) (i := 21) (by omega)
        have hlen' : nst S.1 k p' = s.length := by unfold nst; rw [hs']
        obtain ⟨M', d1, d2, d3, d4⟩ := ih f3 (y + 1) _ _ L k p' l (LKd_k hK s1.ck m1.mk) (Top_mv hT hp') (by show y + 1 + (nst S.1 k p' + nsum S.1 l) ≤ 156; omega) (by omega) (by show nst S.1 k p' + nsum S.1 l < f3; omega)
        exact ⟨M', d1, s1.tr d2, m1.tr d3, d4⟩
      have nLk : ∀ v, kd (S.1 k 1) a.1 = v → v ≠ 3 → ¬ isL (S.1 k 1 a.1) := fun v z w u => by have := kd_L.mp u; omega
      rcases b4 with ⟨z1, z2, rfl⟩ | ⟨z1, z2, z3, z4⟩ | ⟨z1, z2, z3, z4, z5, z6⟩ | ⟨z1, z2, z3, z4, z5, z6⟩ | ⟨z1, z2, z3, z4, q, q1, q2, q3, q4, q5, q6⟩
      · have e1 : ¬ f_MT_endsProcedure S k (nI p) = 0 := by rw [eE, if_neg (fun z => (gs_L _).1.mp z z2)]; decide
        rw [if_neg e1]
        rw [z1] at p3
        cases l with
        | nil =>
          rw [se_30 a2 h60 a6.1 k5 t7 t4 c b3 p1 p3 t6]
          obtain ⟨f4, rfl⟩ : ∃ f4, f3 = f4 + 1 := ⟨f3 - 1, by omega⟩
          obtain ⟨f5, rfl⟩ : ∃ f5, f = f5 + 1 := ⟨f - 1, by omega⟩
          have r0 : stM (stM M 0 23 0) 0 20 0 0 20 = 0 := by rw [stM_s, upd_s]
          rw [se_0 r0, lv_0 (by rw [stR_s, upd_s]; rfl)]
          exact ⟨_, rfl, SF.s93 S _, (MFs.st M 0 (i := 23) (by omega)).tr (MFs.st _ 0 (i := 20) (by omega)), Or.inl ⟨by rw [stR_s, upd_s]; rfl, r0⟩⟩
        | cons fr l =>
          obtain ⟨L', k', p'⟩ := fr
          have el : ((L', k', p') :: l).length = l.length + 1 := rfl
          rw [el] at t6 hl ⊢
          obtain ⟨u1, u2, u3, u4, u5⟩ := t8
          rw [se_31 a2 h60 a6.1 k5 t7 t4 c b3 p1 p3 t6 (by omega), u4]
          have s1 := SF.s93 S (nI (l.length + 1))
          have m1 : MFs M (stM (stM M 0 23 (nI (l.length + 1))) 0 21 (nI (60 * k' + p'))) := (MFs.st M _ (i := 23) (by omega)).tr (MFs.st _ _ (i := 21) (by omega))
          have hT2 : Top (stR S 9 3 (nI (l.length + 1))) (stM (stM M 0 23 (nI (l.length + 1))) 0 21 (nI (60 * k' + p'))) nn L' k' p' l := by
            refine ⟨FrOK_k u1 s1.ck, by rw [stR_o (by decide)]; exact u2, by rw [stR_o (by decide)]; exact u3, by rw [stM_s, upd_s], by rw [stR_s, upd_s], by rw [stM_s, upd_o (by decide), stM_s, upd_s], by rw [stM_s, upd_o (by decide), stM_s, upd_o (by decide)]; exact t7, LF_k s1.ck u5 fun i hi => ⟨by rw [stR_o (by decide)], by rw [stR_o (by decide)], by rw [m1.1 14 (by decide)]⟩⟩
          have hsum : nsum S.1 ((L', k', p') :: l) = nst S.1 k' p' + nsum S.1 l := rfl
          obtain ⟨M', d1, d2, d3, d4⟩ := ih f3 (y + 1) _ _ L' k' p' l (LKd_k hK s1.ck m1.mk) hT2 (by show y + 1 + (nst S.1 k' p' + nsum S.1 l) ≤ 156; omega) (by omega) (by show nst S.1 k' p' + nsum S.1 l < f3; omega)
          exact ⟨M', d1, s1.tr d2, m1.tr d3, d4⟩
      · refine go a.1 z3 z4 ?_ (nLk 6 z1 (by decide)) ?_
        · unfold f_MT_behindBlock
          dsimp only
          rw [ipl k1 h60 a6.1, if_neg (by decide), nI_clamp (by omega), o1, sgn k1 h60 b2, if_pos z2]
        · rw [se_6 a2 h60 a6.1 k5 t7 t4 c b3 p1 (by rw [p3, z1]; rfl), p4 z1]
      · refine go (p + 1) z5 z6 ?_ (nLk 4 z1 (by decide)) ?_
        · rw [eB p a6.1 (by rw [z2]; decide), sgn k1 h60 z3, if_neg z4]
        · exact se_45 a2 h60 z3 k5 t7 t4 c b3 p1 (v := 4) (by rw [p3, z1]; rfl) (Or.inl rfl) z4
      · refine go (p + 1) z5 z6 ?_ (nLk 5 z1 (by decide)) ?_
        · rw [eB p a6.1 (by rw [z2]; decide), sgn k1 h60 z3, if_neg z4]
        · exact se_45 a2 h60 z3 k5 t7 t4 c b3 p1 (v := 5) (by rw [p3, z1]; rfl) (Or.inr rfl) z4
      · obtain ⟨o3, o4⟩ := k4.1 q q1 q2 q3 _ _ q4
        obtain ⟨p5, p6, p7, p8⟩ := k6 q q1 q2 q3 _ _ q4
        have hp2 : p + 2 < nn k := by
          have := top_lt k2 (Nat.le_of_lt q1) (a := (p + 1, p + 2)) (by rw [q4]; exact List.mem_cons_self)
          omega
        refine go (q + 1) q5 q6 ?_ (nLk 4 z1 (by decide)) ?_
        · rw [eB p a6.1 (by rw [z2]; decide), sgn k1 h60 z3, if_pos z4]
          unfold f_MT_behindEndOf
          dsimp only
          rw [ipl k1 h60 z3, if_neg (by decide), nI_clamp (by omega)]
          rw [show S.1 k 4 (p + 1) = nI q from o4, nI_1]
        · rw [se_4 a2 h60 hp2 k5 t7 t4 c b3 p1 (by rw [p3, z1]; rfl) z4]
          rw [show M 5 (60 * k + (p + 2)) = nI (60 * k + q) from p6, nI_1, Nat.add_assoc]
    · rw [if_neg c]
      exact ⟨M, se_n a2 h60 a6.1 k5 t7 t4 c, SF.rf, MFs.rf, Or.inr ⟨L, k, p, l, hT, c⟩⟩
theorem set_s {nn : Nat → Nat} {S : CS} {M : MS} {L k p : Nat} {l : FLs} (hK : LKd S M nn) (hT : Top S M nn L k p l) :
    ∃ M', f_GM_settle M = some M' ∧ SF S (f_MA_leaveEndedBlocks S) ∧ MFs M M' ∧ (((f_MA_leaveEndedBlocks S).2 9 3 = 0 ∧ M' 0 20 = 0) ∨ ∃ L k p l, Top (f_MA_leaveEndedBlocks S) M' nn L k p l ∧ (f_MA_leaveEndedBlocks S).1 k 1 p ≠ 125) := by
  have h1 := (nst_b hK hT.1).2
  have h2 := nsum_b hK hT.2.2.2.2.2.2.2
  have h3 := hT.1.2.2.2.2.1
  have := set_q (fz 157) (fz 2000) 0 S M L k p l hK hT (by omega) (by rw [fz_eq]; omega) (by rw [fz_eq]; omega)
  rw [nI_0] at this
  exact this
