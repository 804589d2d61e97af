/-- what reading text k leaves as it is -/
def FR (k : Nat) (S S' : CS) : Prop := (∀ c, c ≠ 2 → c ≠ 3 → S'.2 c = S.2 c) ∧ (∀ j, j ≠ k → S'.1 j = S.1 j) ∧ S'.1 k 1 = S.1 k 1 ∧ S'.1 k 0 6 = S.1 k 0 6 ∧ S'.1 k 0 9 = S.1 k 0 9
theorem FR.rf {k : Nat} {S : CS} : FR k S S := ⟨fun _ _ _ => rfl, fun _ _ => rfl, rfl, rfl, rfl⟩
theorem FR.tr {k : Nat} {S S1 S2 : CS} (h : FR k S S1) (g : FR k S1 S2) : FR k S S2 := ⟨fun c a b => (g.1 c a b).trans (h.1 c a b), fun j q => (g.2.1 j q).trans (h.2.1 j q), g.2.2.1.trans h.2.2.1, g.2.2.2.1.trans h.2.2.2.1, g.2.2.2.2.trans h.2.2.2.2⟩
theorem FR.R {k : Nat} {S : CS} (i : Nat) (v : Int32) : FR k S (stR S 2 i v) := ⟨fun c a _ => stR_o a, fun _ _ => rfl, rfl, rfl, rfl⟩
theorem FR.R3 {k : Nat} {S : CS} (i : Nat) (v : Int32) : FR k S (stR S 3 i v) := ⟨fun c _ b => stR_o b, fun _ _ => rfl, rfl, rfl, rfl⟩
theorem FR.T {k : Nat} {S : CS} (j i : Nat) (v : Int32) (h0 : j ≠ 0) (h1 : j ≠ 1) : FR k S (stT S k j i v) := ⟨fun _ _ _ => rfl, fun q hq => stT_k hq, stT_o (Ne.symm h1), by rw [stT_o (Ne.symm h0)], by rw [stT_o (Ne.symm h0)]⟩
theorem FR.T0 {k : Nat} {S : CS} (i : Nat) (v : Int32) (h6 : 6 ≠ i) (h9 : 9 ≠ i) : FR k S (stT S k 0 i v) := ⟨fun _ _ _ => rfl, fun q hq => stT_k hq, stT_o (by decide), by rw [stT_s, upd_o h6], by rw [stT_s, upd_o h9]⟩
theorem fr_ite {k : Nat} {S A B : CS} {P : Prop} {hd : Decidable P} (h1 : FR k S A) (h2 : FR k S B) : FR k S (@ite _ P hd A B) := by
  by_cases h : P
  · rw [if_pos h]; exact h1
  · rw [if_neg h]; exact h2
theorem fr_ite2 {k : Nat} {S : CS} {A B : Int32 × CS} {P : Prop} {hd : Decidable P} (h1 : FR k S A.2) (h2 : FR k S B.2) : FR k S (@ite _ P hd A B).2 := by
  by_cases h : P
  · rw [if_pos h]; exact h1
  · rw [if_neg h]; exact h2
theorem fr_addP (S : CS) (k : Nat) (a b : Int32) : FR k S (f_MT_addProcedure S k a b) := by
  have q : ∀ v, FR k S (stT (stT (stT (stT S k 0 8 v) k 0 7 ((stT S k 0 8 v).1 k 0 7 ||| (1 <<< (a &&& 31)))) k 5 a.toNatClampNeg b) k 6 a.toNatClampNeg 0) := fun v =>
    (((FR.T0 8 v (by decide) (by decide)).tr (FR.T0 7 _ (by decide) (by decide))).tr (FR.T 5 _ _ (by decide) (by decide))).tr (FR.T 6 _ _ (by decide) (by decide))
  unfold f_MT_addProcedure
  exact fr_ite FR.rf (fr_ite (fr_ite (q 0) (q 1)) (q 1))
theorem fr_addC (S : CS) (k : Nat) (a b : Int32) : FR k S (f_MT_addCall S k a b) := by
  unfold f_MT_addCall
  exact fr_ite FR.rf (fr_ite FR.rf (FR.T 6 _ _ (by decide) (by decide)))
theorem fr_addS (S : CS) (k : Nat) (a b : Int32) : FR k S (f_MT_addStatement S k a b) := by
  unfold f_MT_addStatement
  exact fr_ite FR.rf (FR.T 2 _ _ (by decide) (by decide))
theorem fr_addB (S : CS) (k : Nat) (a b : Int32) : FR k S (f_MT_addBlock S k a b) := by
  unfold f_MT_addBlock
  exact fr_ite FR.rf (fr_ite FR.rf ((FR.T 3 _ _ (by decide) (by decide)).tr (FR.T 4 _ _ (by decide) (by decide))))
theorem fr_exp (S : CS) (k : Nat) (a : Int32) : FR k S (f_RD_expects S a).2 := FR.R 2 a
theorem fr_beg (S : CS) (k : Nat) (a b : Int32) : FR k S (f_RD_begins S a b).2 := (FR.R 3 a).tr (FR.R 2 b)
theorem fr_opn (S : CS) (k : Nat) (a b : Int32) : FR k S (f_RD_opens S a b).2 := by
  unfold f_RD_opens
  exact fr_ite2 (((FR.R3 _ _).tr (FR.R 1 _)).tr (FR.R 2 b)) FR.rf
theorem fr_pro (S : CS) (k : Nat) (a : Int32) : FR k S (f_RD_takesProcedure S k a).2 := by
  unfold f_RD_takesProcedure
  exact fr_ite2 FR.rf ((((FR.R 6 _).tr (FR.R 7 _)).tr (fr_addP _ _ _ _)).tr (fr_beg _ _ _ _))
theorem fr_clo (S : CS) (k : Nat) (a : Int32) : FR k S (f_RD_closesBlock S k a).2 := by
  unfold f_RD_closesBlock
  exact fr_ite2 (fr_ite2 (fr_ite2 (((FR.R 1 _).tr (fr_addB _ _ _ _)).tr (fr_exp _ _ _)) (((FR.R 1 _).tr (fr_addB _ _ _ _)).tr (fr_exp _ _ _))) (((FR.R 1 _).tr (fr_addB _ _ _ _)).tr (fr_exp _ _ _))) FR.rf
theorem fr_sta (S : CS) (k : Nat) (a : Int32) : FR k S (f_RD_takesStatement S k a).2 := by
  unfold f_RD_takesStatement
  have q : ∀ (S0 : CS) (v : Int32) (n : Int32), FR k S S0 → FR k S (f_RD_begins (stR (f_MT_addStatement (stR S0 2 7 (S0.2 2 7 + 1)) k a ((stR S0 2 7 (S0.2 2 7 + 1)).2 2 7)) 2 4 v) a n).2 := fun S0 v n h =>
    (((h.tr (FR.R 7 _)).tr (fr_addS _ _ _ _)).tr (FR.R 4 v)).tr (fr_beg _ _ _ _)
  refine fr_ite2 (fr_clo _ _ _) (fr_ite2 FR.rf (fr_ite2 ?_ ?_))
  · exact fr_ite2 (q _ _ _ (fr_addC _ _ _ _)) (fr_ite2 (q _ _ _ (fr_addC _ _ _ _)) (q _ _ _ (fr_addC _ _ _ _)))
  · exact fr_ite2 (q _ _ _ FR.rf) (fr_ite2 (q _ _ _ FR.rf) (q _ _ _ FR.rf))
theorem fr_endq (k : Nat) (a : Int32) : ∀ (n : Nat) (S : CS), FR k S (q_RD_endsOperand_0 n S k a).2 := by
  intro n
  induction n with
  | zero => intro S; exact FR.rf
  | succ n ih =>
    intro S
    rw [q_RD_endsOperand_0]
    exact fr_ite2 (fr_exp _ _ _) (fr_ite2 (fr_exp _ _ _) ((FR.R 1 _).tr (ih _)))
theorem fr_end (S : CS) (k : Nat) (a : Int32) : FR k S (f_RD_endsOperand S k a).2 := fr_endq k a _ S
theorem fr_opd (S : CS) (k : Nat) (a : Int32) : FR k S (f_RD_takesOperand S k a).2 := by
  unfold f_RD_takesOperand
  exact fr_ite2 (fr_opn _ _ _ _) (fr_ite2 (fr_ite2 (fr_ite2 (FR.R 5 _) (fr_ite2 ((FR.R 5 _).tr (fr_end _ _ _)) ((FR.R 5 _).tr (fr_end _ _ _)))) (fr_end _ _ _)) (fr_opn _ _ _ _))
theorem fr_dig (S : CS) (k : Nat) : FR k S (f_RD_takesDigit S).2 := by
  unfold f_RD_takesDigit
  exact fr_ite2 (FR.R 5 _) (FR.R 5 _)
theorem fr_opr (S : CS) (k : Nat) (a : Int32) : FR k S (f_RD_takesOperator S k a).2 := by
  unfold f_RD_takesOperator
  exact fr_ite2 (fr_ite2 (fr_ite2 ((FR.R 1 _).tr (fr_end _ _ _)) FR.rf) (fr_ite2 (fr_ite2 (fr_opn _ _ _ _) (fr_exp _ _ _)) FR.rf)) (fr_exp _ _ _)
theorem fr_tak (S : CS) (k : Nat) (a : Int32) : FR k S (f_RD_takes S k a).2 := by
  unfold f_RD_takes
  exact fr_ite2 (fr_pro _ _ _) (fr_ite2 (fr_ite2 (fr_ite2 (fr_opn _ _ _ _) (fr_opn _ _ _ _)) FR.rf) (fr_ite2 (fr_sta _ _ _) (fr_ite2 (fr_ite2 (fr_beg _ _ _ _) (fr_sta _ _ _)) (fr_ite2 (fr_ite2 (fr_ite2 (fr_exp _ _ _) (fr_exp _ _ _)) FR.rf) (fr_ite2 (fr_ite2 (fr_ite2 (fr_exp _ _ _) (fr_exp _ _ _)) FR.rf) (fr_ite2 (fr_opd _ _ _) (fr_ite2 (fr_ite2 (fr_opr _ _ _) (fr_dig _ _)) (fr_opr _ _ _))))))))
theorem fr_fauq (k : Nat) (x : Int32) : ∀ (n : Nat) (S : CS) (y : Int32), FR k S (q_RD_faultOf_21 n S x k y).2 := by
  intro n
  induction n with
  | zero => intro S y; exact FR.rf
  | succ n ih =>
    intro S y
    rw [q_RD_faultOf_21]
    exact fr_ite2 (fr_ite2 FR.rf FR.rf) (fr_ite2 (fr_tak _ _ _) ((fr_tak _ _ _).tr (ih _ _)))
theorem fr_fgt (S : CS) (k : Nat) : FR k S (f_MT_forget S k) := (FR.T0 7 0 (by decide) (by decide)).tr (FR.T0 8 0 (by decide) (by decide))
theorem fr_fau (S : CS) (k : Nat) : FR k S (f_RD_faultOf S k).2 := by
  unfold f_RD_faultOf
  exact (((fr_fgt S k).tr (FR.R 1 0)).tr (FR.R 2 0)).tr (fr_fauq _ _ _ _ _)
