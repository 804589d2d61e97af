/-- what the reference's reader leaves as it is -/
def MF (M M' : MS) : Prop := (∀ c, c ≠ 0 → c ≠ 4 → M' c = M c) ∧ (∀ i, i ≠ 5 → i ≠ 6 → i ≠ 7 → i ≠ 8 → i ≠ 9 → M' 0 i = M 0 i)
theorem MF.rf {M : MS} : MF M M := ⟨fun _ _ _ => rfl, fun _ _ _ _ _ _ => rfl⟩
theorem MF.tr {M M1 M2 : MS} (h : MF M M1) (g : MF M1 M2) : MF M M2 := ⟨fun c a b => (g.1 c a b).trans (h.1 c a b), fun i a b c d e => (g.2 i a b c d e).trans (h.2 i a b c d e)⟩
theorem MF.c0 {M : MS} (i : Nat) (v : Int32) (hi : 5 ≤ i ∧ i ≤ 9) : MF M (stM M 0 i v) := ⟨fun c a _ => stM_o a, fun j a b c d e => by rw [stM_s, upd_o (by omega)]⟩
theorem MF.c4 {M : MS} (i : Nat) (v : Int32) : MF M (stM M 4 i v) := ⟨fun c _ b => stM_o b, fun j _ _ _ _ _ => by rw [stM_o (by decide)]⟩
def OF (M : MS) (o : Option (Int32 × MS)) : Prop := ∀ R, o = some R → MF M R.2
def OG (M : MS) (o : Option MS) : Prop := ∀ R, o = some R → MF M R
theorem OF.some {M M' : MS} {z : Int32} (h : MF M M') : OF M (some (z, M')) := fun R e => by cases e; exact h
theorem OF.none {M : MS} : OF M none := fun R e => by cases e
theorem OF.gd {M : MS} {b : Bool} {o : Option (Int32 × MS)} (h : OF M o) : OF M (gd b o) := by
  cases b
  · exact OF.none
  · exact h
theorem OF.ite {M : MS} {P : Prop} {hd : Decidable P} {a b : Option (Int32 × MS)} (h1 : OF M a) (h2 : OF M b) : OF M (@ite _ P hd a b) := by
  by_cases h : P
  · rw [if_pos h]; exact h1
  · rw [if_neg h]; exact h2
theorem OF.bd2 {M : MS} {o : Option (Int32 × MS)} {k : Int32 → MS → Option (Int32 × MS)} (h : OF M o) (hk : ∀ x S, MF M S → OF M (k x S)) : OF M (bd2 o k) := by
  intro R e
  obtain ⟨q, S, h1, h2⟩ := bd2_of e
  exact hk q S (h _ h1) R h2
theorem OF.bd {M : MS} {o : Option MS} {k : MS → Option (Int32 × MS)} (h : OG M o) (hk : ∀ S, MF M S → OF M (k S)) : OF M (bd o k) := by
  intro R e
  obtain ⟨S, h1, h2⟩ := bd_of e
  exact hk S (h _ h1) R h2
theorem of_push (M : MS) (a b : Int32) {M0 : MS} (h0 : MF M0 M) : OF M0 (f_GM_push M a b) := by
  unfold f_GM_push
  exact OF.ite (OF.some h0) (OF.gd (OF.some (h0.tr (((MF.c4 _ _).tr (MF.c0 5 _ (by omega))).tr (MF.c0 6 _ (by omega))))))
theorem og_ends {M0 : MS} {K : MS → Option MS} (hK : ∀ S, MF M0 S → OG M0 (K S)) : ∀ (n : Nat) (M : MS), MF M0 M → OG M0 (q_GM_operandEnds_0 n M K) := by
  intro n
  induction n with
  | zero => intro M _ R e; cases e
  | succ n ih =>
    intro M h0
    rw [q_GM_operandEnds_0]
    by_cases h : M 0 5 ≤ 0
    · rw [if_pos h]; exact hK M h0
    · rw [if_neg h]
      intro R e
      obtain ⟨_, e⟩ := gd_of (lt_of e rfl)
      by_cases h2 : M 4 (M 0 5 - 1).toNatClampNeg = 2
      · have e := ps_of h2 (lt_of e rfl)
        exact ih _ (h0.tr (MF.c0 5 _ (by omega))) R e
      · have e := ng_of h2 (lt_of e rfl)
        exact hK M h0 R e
theorem og_oe (M : MS) {M0 : MS} (h0 : MF M0 M) : OG M0 (f_GM_operandEnds M) := by
  unfold f_GM_operandEnds
  exact og_ends (fun S h R e => by cases e; exact h.tr (MF.c0 6 _ (by omega))) _ M h0
theorem of_as (M : MS) (c : Int32) : OF M (f_GM_atStatement M c) := by
  unfold f_GM_atStatement
  have k9 : MF M (stM M 0 9 0) := MF.c0 9 _ (by omega)
  have k1 : ∀ {S : MS}, MF M S → ∀ z, MF M (stM S 0 9 z) := fun h z => h.tr (MF.c0 9 _ (by omega))
  have k2 : ∀ {S : MS}, MF M S → ∀ z, MF M (stM S 0 6 z) := fun h z => h.tr (MF.c0 6 _ (by omega))
  have k3 : ∀ {S : MS}, MF M S → ∀ z, MF M (stM S 0 7 z) := fun h z => h.tr (MF.c0 7 _ (by omega))
  have k4 : ∀ {S : MS}, MF M S → ∀ z, MF M (stM S 0 5 z) := fun h z => h.tr (MF.c0 5 _ (by omega))
  have q67 : ∀ (z : Int32), OF M (gd (isB z) (if stM (stM (stM M 0 9 0) 0 5 (stM M 0 9 0 0 5 - 1)) 0 9 z 0 5 = 0 then some (1, stM (stM (stM (stM M 0 9 0) 0 5 (stM M 0 9 0 0 5 - 1)) 0 9 z) 0 6 0) else some (1, stM (stM (stM (stM M 0 9 0) 0 5 (stM M 0 9 0 0 5 - 1)) 0 9 z) 0 6 2))) := fun z => OF.gd (OF.ite (OF.some (k2 (k1 (k4 k9 _) _) _)) (OF.some (k2 (k1 (k4 k9 _) _) _)))
  have q165 : ∀ z : Int32, OF M (some (1, stM (stM (stM M 0 9 0) 0 7 z) 0 6 4)) := fun z => OF.some (k2 (k3 k9 _) _)
  have q142 : OF M (if c = 33 then some (1, stM (stM (stM M 0 9 0) 0 7 0) 0 6 4) else if c = 63 then some (1, stM (stM (stM M 0 9 0) 0 7 4) 0 6 4) else some (1, stM (stM (stM M 0 9 0) 0 7 6) 0 6 4)) := OF.ite (q165 0) (OF.ite (q165 4) (q165 6))
  have q32 : OF M (if c = 125 then gd (ix (stM (stM M 0 9 0) 0 5 (stM M 0 9 0 0 5 - 1) 0 5) 8) (if stM (stM M 0 9 0) 0 5 (stM M 0 9 0 0 5 - 1) 4 (stM (stM M 0 9 0) 0 5 (stM M 0 9 0 0 5 - 1) 0 5).toNatClampNeg = 4 then gd (isB 1) (if stM (stM (stM M 0 9 0) 0 5 (stM M 0 9 0 0 5 - 1)) 0 9 1 0 5 = 0 then some (1, stM (stM (stM (stM M 0 9 0) 0 5 (stM M 0 9 0 0 5 - 1)) 0 9 1) 0 6 0) else some (1, stM (stM (stM (stM M 0 9 0) 0 5 (stM M 0 9 0 0 5 - 1)) 0 9 1) 0 6 2)) else gd (isB 0) (if stM (stM (stM M 0 9 0) 0 5 (stM M 0 9 0 0 5 - 1)) 0 9 0 0 5 = 0 then some (1, stM (stM (stM (stM M 0 9 0) 0 5 (stM M 0 9 0 0 5 - 1)) 0 9 0) 0 6 0) else some (1, stM (stM (stM (stM M 0 9 0) 0 5 (stM M 0 9 0 0 5 - 1)) 0 9 0) 0 6 2)))
    else if f_GM_isLetter c = 0 then (if f_GM_isVariable c = 0 then (if c = 33 then (if c = 33 then some (1, stM (stM (stM M 0 9 0) 0 7 0) 0 6 4) else if c = 63 then some (1, stM (stM (stM M 0 9 0) 0 7 4) 0 6 4) else some (1, stM (stM (stM M 0 9 0) 0 7 6) 0 6 4)) else if c = 63 then (if c = 33 then some (1, stM (stM (stM M 0 9 0) 0 7 0) 0 6 4) else if c = 63 then some (1, stM (stM (stM M 0 9 0) 0 7 4) 0 6 4) else some (1, stM (stM (stM M 0 9 0) 0 7 6) 0 6 4)) else if c = 64 then (if c = 33 then some (1, stM (stM (stM M 0 9 0) 0 7 0) 0 6 4) else if c = 63 then some (1, stM (stM (stM M 0 9 0) 0 7 4) 0 6 4) else some (1, stM (stM (stM M 0 9 0) 0 7 6) 0 6 4)) else some (0, stM M 0 9 0)) else some (1, stM (stM (stM M 0 9 0) 0 7 0) 0 6 3)) else some (1, stM (stM M 0 9 0) 0 6 6)) :=
    OF.ite (OF.gd (OF.ite (q67 1) (q67 0))) (OF.ite (OF.ite (OF.ite q142 (OF.ite q142 (OF.ite q142 (OF.some k9)))) (OF.some (k2 (k3 k9 _) _))) (OF.some (k2 k9 _)))
  exact OF.ite (OF.ite q32 (OF.some (k2 (k3 k9 _) _))) q32
theorem of_ao (M : MS) (c : Int32) : OF M (f_GM_atOperand M c) := by
  rw [ao_e]
  exact OF.ite (of_push _ _ _ MF.rf) (OF.ite (of_push _ _ _ MF.rf) (OF.ite (OF.bd (og_oe _ (MF.c0 8 _ (by omega))) (fun S h => OF.some h)) (OF.ite (OF.bd (og_oe _ (MF.c0 8 _ (by omega))) (fun S h => OF.some h)) (OF.some MF.rf))))
theorem of_ap (M : MS) (c : Int32) : OF M (f_GM_afterOperand M c) := by
  rw [ap_e]
  refine OF.ite (OF.ite (OF.some (MF.c0 8 _ (by omega))) (OF.some (MF.c0 8 _ (by omega)))) (OF.gd (OF.ite (OF.some (MF.c0 6 _ (by omega))) (OF.ite (OF.ite (OF.bd (og_oe _ ((MF.c0 5 _ (by omega)).tr (MF.c0 8 _ (by omega)))) (fun S h => OF.some h)) (OF.some MF.rf)) (OF.ite (OF.ite (OF.some (MF.c0 6 _ (by omega))) (OF.some MF.rf)) (OF.ite (OF.ite (OF.some MF.rf) (OF.bd2 (of_push _ _ _ MF.rf) (fun x S h => OF.ite (OF.some h) (OF.some h)))) (OF.some MF.rf))))))
theorem of_st (M : MS) (c : Int32) : OF M (f_GM_stands M c) := by
  unfold f_GM_stands
  refine OF.ite (OF.some ((MF.c0 7 _ (by omega)).tr (MF.c0 6 _ (by omega)))) (OF.ite ?_ (OF.ite (OF.bd2 (of_as M c) (fun x S h => OF.some h)) (OF.ite (OF.bd2 (of_ao M c) (fun x S h => OF.some h)) (OF.ite (OF.bd2 (of_ap M c) (fun x S h => OF.some h)) ?_))))
  · exact OF.ite (OF.bd2 (of_push _ _ _ MF.rf) (fun x S h => OF.ite (OF.gd (OF.some h)) (OF.gd (OF.some h)))) (OF.gd (OF.some MF.rf))
  · have q : ∀ z w : Int32, OF M (if M 0 6 = 3 then gd (isB w) (some (w, stM M 0 6 4)) else gd (isB w) (some (w, stM M 0 6 2))) := fun z w => OF.ite (OF.gd (OF.some (MF.c0 6 _ (by omega)))) (OF.gd (OF.some (MF.c0 6 _ (by omega))))
    exact OF.ite (OF.ite (q 61 1) (q 61 0)) (OF.ite (q 59 1) (q 59 0))
/-- the reference's text k, as the class has it -/
def TX (M : MS) (k n : Nat) (t : Nat → Int32) : Prop := M 2 k = nI n ∧ ∀ i, i < n → M 1 (60 * k + i) = t i
theorem TX_mf {M M' : MS} {k n : Nat} {t : Nat → Int32} (h : TX M k n t) (hf : MF M M') : TX M' k n t := ⟨by rw [hf.1 2 (by decide) (by decide)]; exact h.1, fun i hi => by rw [hf.1 1 (by decide) (by decide)]; exact h.2 i hi⟩
theorem n60 (k : Nat) : (60 : Int32) * nI k = nI (60 * k) := by
  show Int32.ofNat 60 * Int32.ofNat k = _
  rw [← Int32.ofNat_mul]; rfl
theorem mfau_q {k n : Nat} {t : Nat → Int32} (hk : k < 3) (h60 : n ≤ 60) {K : MS → Int32 → Option (Int32 × MS)} : ∀ (f p : Nat) (M : MS) (r : RS), TX M k n t → p ≤ n → n < p + f → runR t p = some r → RM t M r →
    (∃ p' M', p' < n ∧ (∃ r, runR t p' = some r) ∧ runR t (p' + 1) = none ∧ MF M M' ∧ q_GM_fault_28 f M (nI k) (nI p) K = some (nI p', M')) ∨ (∃ r' M', runR t n = some r' ∧ RM t M' r' ∧ MF M M' ∧ q_GM_fault_28 f M (nI k) (nI p) K = K M' (nI n)) := by
  intro f
  induction f with
  | zero => intro p M r _ hp hf; omega
  | succ f ih =>
    intro p M r hT hp hf hr hR
    rw [q_GM_fault_28, ix_nI hk (by omega), gdt, nI_clamp (by omega), hT.1]
    show (∃ p' M', p' < n ∧ (∃ r, runR t p' = some r) ∧ runR t (p' + 1) = none ∧ MF M M' ∧ (if nI n ≤ nI p then K M (nI p) else gd (ix (60 * nI k + nI p) 180) (bd2 (f_GM_stands M (M 1 (60 * nI k + nI p).toNatClampNeg)) fun x50 S50 => if x50 = 0 then some (nI p, S50) else q_GM_fault_28 f S50 (nI k) (nI p + 1) K)) = some (nI p', M')) ∨ (∃ r' M', runR t n = some r' ∧ RM t M' r' ∧ MF M M' ∧ (if nI n ≤ nI p then K M (nI p) else gd (ix (60 * nI k + nI p) 180) (bd2 (f_GM_stands M (M 1 (60 * nI k + nI p).toNatClampNeg)) fun x50 S50 => if x50 = 0 then some (nI p, S50) else q_GM_fault_28 f S50 (nI k) (nI p + 1) K)) = K M' (nI n))
    by_cases q : n ≤ p
    · have e : p = n := by omega
      subst e
      rw [if_pos (nI_le (Nat.le_refl p) (by omega))]
      exact Or.inr ⟨r, M, hr, hR, MF.rf, rfl⟩
    · rw [if_neg (nI_ge (by omega) (by omega)), n60, nI_add, ix_nI (by omega) (by omega), gdt, nI_clamp (by omega), hT.2 p (by omega)]
      obtain ⟨z, M1, h1, h2⟩ := stands_spec (WS_run hr) hR
      have hf1 : MF M M1 := of_st M (t p) _ h1
      rw [h1]
      show (∃ p' M', p' < n ∧ (∃ r, runR t p' = some r) ∧ runR t (p' + 1) = none ∧ MF M M' ∧ (if z = 0 then some (nI p, M1) else q_GM_fault_28 f M1 (nI k) (nI p + 1) K) = some (nI p', M')) ∨ (∃ r' M', runR t n = some r' ∧ RM t M' r' ∧ MF M M' ∧ (if z = 0 then some (nI p, M1) else q_GM_fault_28 f M1 (nI k) (nI p + 1) K) = K M' (nI n))
      have hs := runR_s hr
      cases w : stepR t p r with
      | none =>
        rw [w] at h2 hs
        rw [if_pos h2]
        exact Or.inl ⟨p, M1, by omega, ⟨r, hr⟩, hs, hf1, rfl⟩
      | some r' =>
        rw [w] at h2 hs
        rw [if_neg (by rw [h2.1]; decide), nI_1]
        rcases ih (p + 1) M1 r' (TX_mf hT hf1) (by omega) (by omega) hs h2.2 with ⟨p', M', b1, b2, b3, b4, b5⟩ | ⟨r'', M', b1, b2, b3, b4⟩
        · exact Or.inl ⟨p', M', b1, b2, b3, hf1.tr b4, b5⟩
        · exact Or.inr ⟨r'', M', b1, b2, hf1.tr b3, b4⟩
theorem mfau_s {M : MS} {k n : Nat} {t : Nat → Int32} (hk : k < 3) (h60 : n ≤ 60) (hT : TX M k n t) : ∃ v M', f_GM_fault M (nI k) = some (v, M') ∧ FaultIs t n v ∧ MF M M' := by
  unfold f_GM_fault
  have e3 : f_GM_in (nI k) 0 2 = 1 := by
    rw [gm_in, nI_toInt (by omega), if_pos]
    exact ⟨by show (0 : Int) ≤ _; omega, by show _ ≤ (2 : Int); omega⟩
  have hF : MF M (stM (stM (stM M 0 5 0) 0 6 0) 0 9 0) := ((MF.c0 5 _ (by omega)).tr (MF.c0 6 _ (by omega))).tr (MF.c0 9 _ (by omega))
  have hR : RM t (stM (stM (stM M 0 5 0) 0 6 0) 0 9 0) r_0 := ⟨by simp [stM_at]; rfl, trivial, by simp [stM_at]; rfl, by simp [stM_at], fun w => by omega, fun w => by omega, fun w => by omega, fun w => by omega⟩
  rw [e3]
  show ∃ v M', q_GM_fault_28 (fz 2000) (stM (stM (stM M 0 5 0) 0 6 0) 0 9 0) (nI k) (nI 0) (fun S64 _ => if S64 0 6 = 0 then some (-2, S64) else gd (ix (nI k) 3) (some (S64 2 (nI k).toNatClampNeg, S64))) = some (v, M') ∧ FaultIs t n v ∧ MF M M'
  rcases mfau_q (K := fun S64 _ => if S64 0 6 = 0 then some (-2, S64) else gd (ix (nI k) 3) (some (S64 2 (nI k).toNatClampNeg, S64))) hk h60 (fz 2000) 0 _ r_0 (TX_mf hT hF) (by omega) (by rw [fz_eq]; omega) rfl hR with ⟨p', M', b1, b2, b3, b4, b5⟩ | ⟨r', M', b1, b2, b3, b4⟩
  · exact ⟨_, M', b5, Or.inl ⟨p', b1, b2, b3, rfl⟩, hF.tr b4⟩
  · rw [b4]
    obtain ⟨stk, e, h, x, g, pr, st⟩ := r'
    have h6 : M' 0 6 = nI (mst e) := b2.2.2.1
    have he8 : e ≤ 8 := (WS_run b1).2.2.2.2.1
    have hT' := TX_mf hT (hF.tr b3)
    by_cases q : e = 0
    · subst q
      refine ⟨-2, M', ?_, Or.inr ⟨_, b1, by simp⟩, hF.tr b3⟩
      show (if M' 0 6 = 0 then _ else _) = _
      rw [if_pos (by rw [h6]; rfl)]
    · refine ⟨nI n, M', ?_, Or.inr ⟨_, b1, by simp [q]⟩, hF.tr b3⟩
      show (if M' 0 6 = 0 then _ else _) = _
      have hm : 0 < mst e ∧ mst e ≤ 6 := by
        match e, he8, q with
        | 1, _, _ => decide
        | 2, _, _ => decide
        | 3, _, _ => decide
        | 4, _, _ => decide
        | 5, _, _ => decide
        | 6, _, _ => decide
        | 7, _, _ => decide
        | 8, _, _ => decide
      rw [if_neg (by rw [h6]; exact nI_ne0 hm.1 (by omega)), ix_nI hk (by omega), gdt, nI_clamp (by omega), hT'.1]
