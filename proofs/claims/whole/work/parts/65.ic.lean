def RI (k : Nat) (S : CS) : Prop := (0 ≤ (S.2 2 1).toInt ∧ (S.2 2 1).toInt ≤ 6) ∧ bl (S.1 k 0 8)
theorem ri_ite2 {k : Nat} {A B : Int32 × CS} {P : Prop} {hd : Decidable P} (h1 : P → RI k A.2) (h2 : ¬ P → RI k B.2) : RI k (@ite _ P hd A B).2 := by
  by_cases h : P
  · rw [if_pos h]; exact h1 h
  · rw [if_neg h]; exact h2 h
theorem ri_ite {k : Nat} {A B : CS} {P : Prop} {hd : Decidable P} (h1 : P → RI k A) (h2 : ¬ P → RI k B) : RI k (@ite _ P hd A B) := by
  by_cases h : P
  · rw [if_pos h]; exact h1 h
  · rw [if_neg h]; exact h2 h
theorem RI.R {k : Nat} {S : CS} (h : RI k S) {c i : Nat} {v : Int32} (hc : c ≠ 2 ∨ i ≠ 1) : RI k (stR S c i v) := by
  refine ⟨?_, h.2⟩
  have : (stR S c i v).2 2 1 = S.2 2 1 := by
    rw [stR_at]
    by_cases q : 2 = c
    · rw [if_pos q, if_neg (by omega)]
    · rw [if_neg q]
  rw [this]; exact h.1
theorem RI.T {k : Nat} {S : CS} (h : RI k S) {j i : Nat} {v : Int32} (hj : 0 ≠ j ∨ 8 ≠ i) : RI k (stT S k j i v) := by
  refine ⟨h.1, ?_⟩
  by_cases q : 0 = j
  · subst q; rw [stT_s, upd_o (by omega)]; exact h.2
  · rw [stT_o q]; exact h.2
theorem RI.T8 {k : Nat} {S : CS} (h : RI k S) {v : Int32} (hv : bl v) : RI k (stT S k 0 8 v) := ⟨h.1, by rw [stT_s, upd_s]; exact hv⟩
theorem RI.D {k : Nat} {S : CS} (h : RI k S) {v : Int32} (h0 : 0 ≤ v.toInt) (h6 : v.toInt ≤ 6) : RI k (stR S 2 1 v) := ⟨by rw [stR_s, upd_s]; exact ⟨h0, h6⟩, h.2⟩
theorem RI.dec {k : Nat} {S : CS} (h : RI k S) (hp : 0 < (S.2 2 1).toInt) : RI k (stR S 2 1 (S.2 2 1 - 1)) := by
  have h6 := h.1.2
  have := i_sub (x := S.2 2 1) (c := 1) 1 rfl (by omega) (by omega)
  exact h.D (by omega) (by omega)
theorem ri_addP {S : CS} {k : Nat} (a b : Int32) (h : RI k S) : RI k (f_MT_addProcedure S k a b) := by
  have q : ∀ v, bl v → RI k (stT (stT (stT (stT S k 0 8 v) k 0 7 ((stT S k 0 8 v).1 k 0 7 ||| (1 <<< (a &&& 31)))) k 5 a.toNatClampNeg b) k 6 a.toNatClampNeg 0) := fun v hv =>
    (((h.T8 hv).T (by omega)).T (by omega)).T (by omega)
  unfold f_MT_addProcedure
  exact ri_ite (fun _ => h) (fun _ => ri_ite (fun _ => ri_ite (fun _ => q 0 (Or.inl rfl)) (fun _ => q 1 (Or.inr rfl))) (fun _ => q 1 (Or.inr rfl)))
theorem ri_addC {S : CS} {k : Nat} (a b : Int32) (h : RI k S) : RI k (f_MT_addCall S k a b) := by
  unfold f_MT_addCall
  exact ri_ite (fun _ => h) (fun _ => ri_ite (fun _ => h) (fun _ => h.T (by omega)))
theorem ri_addS {S : CS} {k : Nat} (a b : Int32) (h : RI k S) : RI k (f_MT_addStatement S k a b) := by
  unfold f_MT_addStatement
  exact ri_ite (fun _ => h) (fun _ => h.T (by omega))
theorem ri_addB {S : CS} {k : Nat} (a b : Int32) (h : RI k S) : RI k (f_MT_addBlock S k a b) := by
  unfold f_MT_addBlock
  exact ri_ite (fun _ => h) (fun _ => ri_ite (fun _ => h) (fun _ => (h.T (by omega)).T (by omega)))
theorem ri_exp {S : CS} {k : Nat} (a : Int32) (h : RI k S) : RI k (f_RD_expects S a).2 := h.R (by omega)
theorem ri_beg {S : CS} {k : Nat} (a b : Int32) (h : RI k S) : RI k (f_RD_begins S a b).2 := (h.R (c := 2) (i := 3) (by omega)).R (by omega)
theorem ri_opn {S : CS} {k : Nat} (a b : Int32) (h : RI k S) : RI k (f_RD_opens S a b).2 := by
  unfold f_RD_opens
  refine ri_ite2 (fun q => ?_) (fun _ => h)
  refine RI.R ?_ (by omega)
  have e : (stR S 3 (S.2 2 1).toNatClampNeg a).2 2 1 = S.2 2 1 := by rw [stR_o (by decide)]
  have h1 := h.1
  have q := i_lt 6 rfl q
  have := i_add (x := S.2 2 1) (c := 1) 1 rfl (by omega) (by omega)
  refine RI.D (h.R (by omega)) ?_ ?_
  · rw [e, this]; omega
  · rw [e, this]; omega
theorem ri_pro {S : CS} {k : Nat} (a : Int32) (h : RI k S) : RI k (f_RD_takesProcedure S k a).2 := by
  unfold f_RD_takesProcedure
  exact ri_ite2 (fun _ => h) (fun _ => ri_beg _ _ (ri_addP _ _ ((h.R (by omega)).R (by omega))))
theorem ri_clo {S : CS} {k : Nat} (a : Int32) (h : RI k S) : RI k (f_RD_closesBlock S k a).2 := by
  unfold f_RD_closesBlock
  refine ri_ite2 (fun q => ?_) (fun _ => h)
  have h1 : RI k (stR S 2 1 (S.2 2 1 - 1)) := h.dec (by have := i_le 1 rfl q; omega)
  exact ri_ite2 (fun _ => ri_ite2 (fun _ => ri_exp _ (ri_addB _ _ h1)) (fun _ => ri_exp _ (ri_addB _ _ h1))) (fun _ => ri_exp _ (ri_addB _ _ h1))
theorem ri_sta {S : CS} {k : Nat} (a : Int32) (h : RI k S) : RI k (f_RD_takesStatement S k a).2 := by
  unfold f_RD_takesStatement
  have q : ∀ (S0 : CS) (v : Int32) (n : Int32), RI k S0 → RI k (f_RD_begins (stR (f_MT_addStatement (stR S0 2 7 (S0.2 2 7 + 1)) k a ((stR S0 2 7 (S0.2 2 7 + 1)).2 2 7)) 2 4 v) a n).2 := fun S0 v n h =>
    ri_beg _ _ ((ri_addS _ _ (h.R (by omega))).R (by omega))
  refine ri_ite2 (fun _ => ri_clo _ h) (fun _ => ri_ite2 (fun _ => h) (fun _ => ri_ite2 (fun _ => ?_) (fun _ => ?_)))
  · exact ri_ite2 (fun _ => q _ _ _ (ri_addC _ _ h)) (fun _ => ri_ite2 (fun _ => q _ _ _ (ri_addC _ _ h)) (fun _ => q _ _ _ (ri_addC _ _ h)))
  · exact ri_ite2 (fun _ => q _ _ _ h) (fun _ => ri_ite2 (fun _ => q _ _ _ h) (fun _ => q _ _ _ h))
theorem ri_endq {k : Nat} (a : Int32) : ∀ (n : Nat) (S : CS), RI k S → RI k (q_RD_endsOperand_0 n S k a).2 := by
  intro n
  induction n with
  | zero => intro S h; exact h
  | succ n ih =>
    intro S h
    rw [q_RD_endsOperand_0]
    exact ri_ite2 (fun _ => ri_exp _ h) (fun q => ri_ite2 (fun _ => ri_exp _ h) (fun _ => ih _ (h.dec (i_nle0 q))))
theorem ri_end {S : CS} {k : Nat} (a : Int32) (h : RI k S) : RI k (f_RD_endsOperand S k a).2 := ri_endq a _ S h
theorem ri_opd {S : CS} {k : Nat} (a : Int32) (h : RI k S) : RI k (f_RD_takesOperand S k a).2 := by
  unfold f_RD_takesOperand
  exact ri_ite2 (fun _ => ri_opn _ _ h) (fun _ => ri_ite2 (fun _ => ri_ite2 (fun _ => ri_ite2 (fun _ => h.R (by omega)) (fun _ => ri_ite2 (fun _ => ri_end _ (h.R (by omega))) (fun _ => ri_end _ (h.R (by omega))))) (fun _ => ri_end _ h)) (fun _ => ri_opn _ _ h))
theorem ri_dig {S : CS} {k : Nat} (h : RI k S) : RI k (f_RD_takesDigit S).2 := by
  unfold f_RD_takesDigit
  exact ri_ite2 (fun _ => h.R (by omega)) (fun _ => h.R (by omega))
theorem ri_opr {S : CS} {k : Nat} (a : Int32) (h : RI k S) : RI k (f_RD_takesOperator S k a).2 := by
  unfold f_RD_takesOperator
  exact ri_ite2 (fun _ => ri_ite2 (fun q => ri_ite2 (fun _ => ri_end _ (h.dec (lo_pos q))) (fun _ => h)) (fun _ => ri_ite2 (fun _ => ri_ite2 (fun _ => ri_opn _ _ h) (fun _ => ri_exp _ h)) (fun _ => h))) (fun _ => ri_exp _ h)
theorem ri_tak {S : CS} {k : Nat} (a : Int32) (h : RI k S) : RI k (f_RD_takes S k a).2 := by
  unfold f_RD_takes
  exact ri_ite2 (fun _ => ri_pro _ h) (fun _ => ri_ite2 (fun _ => ri_ite2 (fun _ => ri_ite2 (fun _ => ri_opn _ _ h) (fun _ => ri_opn _ _ h)) (fun _ => h)) (fun _ => ri_ite2 (fun _ => ri_sta _ h) (fun _ => ri_ite2 (fun _ => ri_ite2 (fun _ => ri_beg _ _ h) (fun _ => ri_sta _ h)) (fun _ => ri_ite2 (fun _ => ri_ite2 (fun _ => ri_ite2 (fun _ => ri_exp _ h) (fun _ => ri_exp _ h)) (fun _ => h)) (fun _ => ri_ite2 (fun _ => ri_ite2 (fun _ => ri_ite2 (fun _ => ri_exp _ h) (fun _ => ri_exp _ h)) (fun _ => h)) (fun _ => ri_ite2 (fun _ => ri_opd _ h) (fun _ => ri_ite2 (fun _ => ri_ite2 (fun _ => ri_opr _ h) (fun _ => ri_dig h)) (fun _ => ri_opr _ h))))))))
theorem ri_fauq {k : Nat} (x : Int32) : ∀ (n : Nat) (S : CS) (y : Int32), RI k S → RI k (q_RD_faultOf_21 n S x k y).2 := by
  intro n
  induction n with
  | zero => intro S y h; exact h
  | succ n ih =>
    intro S y h
    rw [q_RD_faultOf_21]
    exact ri_ite2 (fun _ => ri_ite2 (fun _ => h) (fun _ => h)) (fun _ => ri_ite2 (fun _ => ri_tak _ h) (fun _ => ih _ _ (ri_tak _ h)))
theorem ri_fau {S : CS} {k : Nat} (h : RI k S) : RI k (f_RD_faultOf S k).2 := by
  unfold f_RD_faultOf f_MT_forget
  exact ri_fauq _ _ _ _ (((((h.T (j := 0) (i := 7) (by omega)).T8 (Or.inl rfl)).D (v := 0) (by decide) (by decide))).R (by omega))
theorem IC_fau {N : Nat} {S : CS} {k : Nat} (hI : IC N S) (hk : k < 3) : IC N (f_RD_faultOf S k).2 := by
  have hF := fr_fau S k
  have hR := ri_fau (k := k) ⟨hI.2.1, (hI.1 k hk).2.2.1⟩
  obtain ⟨f1, f2, f3, f4, f5⟩ := hF
  refine ⟨fun j hj => ?_, hR.1, fun j => by rw [f1 5 (by decide) (by decide)]; exact hI.2.2.1 j, by rw [f1 9 (by decide) (by decide)]; exact hI.2.2.2.1, by rw [f1 9 (by decide) (by decide)]; exact hI.2.2.2.2⟩
  by_cases q : j = k
  · subst q
    rw [f4, f5]
    exact ⟨(hI.1 j hj).1, (hI.1 j hj).2.1, hR.2, (hI.1 j hj).2.2.2⟩
  · rw [f2 j q]; exact hI.1 j hj
theorem ic_fgt {N : Nat} : ∀ (f : Nat) (S : CS) (y : Int32), IC N S → IC N (q_PR_forget_7 f S y) := by
  intro f
  induction f with
  | zero => intro S y h; exact h
  | succ f ih =>
    intro S y h
    rw [q_PR_forget_7]
    split
    · exact h
    · exact ih _ _ (IC_R (IC_h0 h _) 6 _ _ rfl)
theorem ic_tak {N k : Nat} (hk : k < 3) : ∀ (f : Nat) (S : CS) (y : Int32), IC N S → IC N (q_PR_takeOver_2 f S k y) := by
  intro f
  induction f with
  | zero => intro S y h; exact h
  | succ f ih =>
    intro S y h
    rw [q_PR_takeOver_2]
    split
    · exact h
    · dsimp only
      split
      · exact ih _ _ h
      · exact ih _ _ (IC_R (IC_hq h _ hk) 6 _ _ rfl)
theorem ic_fc10 {N : Nat} (b : Int32) : ∀ (f : Nat) (S : CS) (y : Int32), IC N S → IC N (q_PR_followChains_10 f S b y) := by
  intro f
  induction f with
  | zero => intro S y h; exact h
  | succ f ih =>
    intro S y h
    rw [q_PR_followChains_10]
    split
    · exact h
    · dsimp only
      split
      · exact ih _ _ h
      · exact ih _ _ (IC_R h 6 _ _ rfl)
theorem ic_fc2 {N : Nat} : ∀ (f : Nat) (S : CS) (y : Int32), IC N S → IC N (q_PR_followChains_2 f S y) := by
  intro f
  induction f with
  | zero => intro S y h; exact h
  | succ f ih =>
    intro S y h
    rw [q_PR_followChains_2]
    split
    · exact h
    · exact ih _ _ (ic_fc10 _ _ _ _ h)
theorem ic_join {N : Nat} : ∀ (f y : Nat) (S : CS), IC N S → IC N (q_PR_join_6 f S (nI y)).2 := by
  intro f
  induction f with
  | zero => intro y S h; exact h
  | succ f ih =>
    intro y S h
    rw [q_PR_join_6]
    split
    · dsimp only
      split
      · split
        · exact ic_fc2 _ _ _ h
        · exact ic_fc2 _ _ _ h
      · exact h
    · rename_i q
      dsimp only
      split
      · rw [nI_1]
        refine ih _ _ (ic_tak ?_ _ _ _ (IC_R h 4 2 _ rfl))
        have := i_nle 3 rfl q
        rw [Int32.toNatClampNeg]
        omega
      · exact h
theorem ic_jn {N : Nat} {S : CS} (h : IC N S) : IC N (f_PR_join S).2 := by
  unfold f_PR_join f_PR_forget
  dsimp only
  rw [← nI_0]
  exact ic_join _ 0 _ (ic_fgt _ _ _ (IC_R h 4 2 _ rfl))
