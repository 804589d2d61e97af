def exl (t : Nat → Int32) (s : List (Nat × Nat)) : Nat := s.length - (blk t s).length
theorem exl_pop (t : Nat → Int32) (s : List (Nat × Nat)) {c : Nat} (h : s.length = (popP t s).length + c) : exl t s = exl t (popP t s) + c := by
  unfold exl
  rw [blk_pop]
  have := blk_len t (popP t s)
  rw [blk_pop] at this
  omega
theorem exl_push {t : Nat → Int32} {s : List (Nat × Nat)} {a : Nat × Nat} (h : ¬ 3 ≤ kd t a.1) : exl t (a :: s) = exl t s + 1 := by
  unfold exl
  rw [blk_n h]
  have := blk_len t s
  have e : (a :: s).length = s.length + 1 := rfl
  omega
def apB (f : Nat → Int32) (b : Nat) : Nat → Int32 → Int32
  | 0, x => x
  | c + 1, x => apB f b c (if f (b + c) = 126 then x ^^^ (-1) else -x)
theorem apB_c {f g : Nat → Int32} {b : Nat} : ∀ (c : Nat) (x : Int32), (∀ i, i < b + c → f i = g i) → apB f b c x = apB g b c x
  | 0, _, _ => rfl
  | c + 1, x, h => by
    rw [apB, apB, h (b + c) (by omega)]
    exact apB_c c _ (fun i hi => h i (by omega))
theorem opq {d b : Nat} {p2 : Int32} (hd : d < 8) {K : MS → Int32 → Option MS} : ∀ (f c : Nat) (M : MS) (x : Int32), c < f → b + c ≤ 60 → M 0 28 = nI (b + c) → M 17 d = nI b → q_GM_operand_2 f M (nI d) p2 x K = K (stM M 0 28 (nI b)) (apB (M 18) b c x) := by
  intro f
  induction f with
  | zero => intro c M x hf; omega
  | succ f ih =>
    intro c M x hf hb h0 h17
    rw [q_GM_operand_2]
    simp only [↓ltE, jnE, ix_nI hd (by omega), gdE, nI_clamp (show d < 2 ^ 31 by omega), h17, h0]
    cases c with
    | zero =>
      rw [if_pos (nI_le (by omega) (by omega)), stM_self (show M 0 28 = nI b from h0)]
      rfl
    | succ c =>
      rw [if_neg (nI_ge (by omega) (by omega)), show nI (b + (c + 1)) - 1 = nI (b + c) from nI_pred (b + c)]
      have r1 : stM M 0 28 (nI (b + c)) 0 28 = nI (b + c) := by rw [stM_s, upd_s]
      have r2 : stM M 0 28 (nI (b + c)) 18 = M 18 := stM_o (by decide)
      have r3 : stM M 0 28 (nI (b + c)) 17 = M 17 := stM_o (by decide)
      simp only [r1, r2, ix_nI (show b + c < 60 by omega) (by omega), gdE, nI_clamp (show b + c < 2 ^ 31 by omega)]
      have ih2 := fun y => ih c (stM M 0 28 (nI (b + c))) y (by omega) (by omega) r1 (by rw [r3]; exact h17)
      simp only [stM_stM, r2] at ih2
      rw [apB]
      by_cases q : M 18 (b + c) = 126
      · rw [if_pos q, if_pos q, ih2]
      · rw [if_neg q, if_neg q, ih2]
theorem opd_s {d b c : Nat} {M : MS} {v : Int32} (hd : d < 8) (hb : b + c ≤ 60) (h0 : M 0 28 = nI (b + c)) (h17 : M 17 d = nI b) : f_GM_operand M (nI d) v = some (stM (stM M 0 28 (nI b)) 15 d (f_GM_apply (M 16 d) (M 15 d) (apB (M 18) b c v))) := by
  unfold f_GM_operand
  rw [opq hd (fz 2000) c M v (by rw [fz_eq]; omega) hb h0 h17]
  have r1 : stM M 0 28 (nI b) 16 = M 16 := stM_o (by decide)
  have r2 : stM M 0 28 (nI b) 15 = M 15 := stM_o (by decide)
  simp only [↓ltE, jnE, ix_nI hd (by omega), gdE, nI_clamp (show d < 2 ^ 31 by omega), r1, r2]
theorem app_w {c : Int32} (h : isO c) (x y : Int32) : f_GM_apply c x y = f_GS_worked (f_GS_operationOf c) x y := by
  rcases h with rfl | rfl | rfl | rfl | rfl | rfl | rfl <;> rfl
theorem app_0 (x y : Int32) : f_GM_apply 0 x y = y := rfl
theorem gV_1 {c : Int32} (h : isV c) : f_GM_isVariable c = 1 := by rw [gm_V, if_pos h]
theorem gV_0 {c : Int32} (h : ¬ isV c) : f_GM_isVariable c = 0 := by rw [gm_V, if_neg h]
theorem gD_1 {c : Int32} (h : isD c) : f_GM_in c 48 57 = 1 := by rw [gm_D, if_pos h]
theorem gD_0 {c : Int32} (h : ¬ isD c) : f_GM_in c 48 57 = 0 := by rw [gm_D, if_neg h]
theorem vno_s {c : Int32} (h : isV c) : ∃ a, a < 8 ∧ c - 97 = nI a := by
  have h1 : (c - 97).toInt = c.toInt - 97 := i_sub 97 rfl (by omega) (by omega)
  refine ⟨(c.toInt - 97).toNat, by omega, Int32.toInt_inj.mp ?_⟩
  rw [h1, nI_toInt (by omega)]; omega
section
variable {t : Nat → Int32} {k n i f d : Nat} {M : MS} {p1 : Int32} {K : MS → Int32 → Int32 → Int32 → Option (Int32 × MS)}
theorem ww_p {m : Nat} (hk : k < 3) (h60 : n ≤ 60) (hi : i < n) (hT : TX M k n t) (hm : m < 60) (h0 : M 0 28 = nI m) (c1 : ¬ isD (t i)) (c2 : ¬ isV (t i)) (c3 : t i ≠ 40) (c4 : t i ≠ 41) : q_GM_work_26 (f + 1) M p1 (nI (60 * k + i)) 1 (nI d) K = q_GM_work_26 f (stM (stM M 18 m (t i)) 0 28 (nI (m + 1))) p1 (nI (60 * k + (i + 1))) 1 (nI d) K := by
  have r1 : stM M 18 m (t i) 0 = M 0 := stM_o (by decide)
  rw [q_GM_work_26]
  simp only [↓ltE, jnE, ix_nI (show 60 * k + i < 180 by omega) (by omega), gdE, nI_clamp (show 60 * k + i < 2 ^ 31 by omega), hT.2 i hi, i10, if_false, ite_self, gD_0 c1, gV_0 c2, i00, if_true, if_neg c3, if_neg c4, h0, ix_nI hm (by omega), nI_clamp (show m < 2 ^ 31 by omega), r1, nI_1, Nat.add_assoc]
theorem ww_o (hk : k < 3) (h60 : n ≤ 60) (hi : i < n) (hT : TX M k n t) (hd : d + 1 < 8) (hc : t i = 40) : q_GM_work_26 (f + 1) M p1 (nI (60 * k + i)) 1 (nI d) K = q_GM_work_26 f (stM (stM M 17 (d + 1) (M 0 28)) 16 (d + 1) 0) p1 (nI (60 * k + (i + 1))) 1 (nI (d + 1)) K := by
  have c1 : ¬ isD (t i) := by rw [hc]; decide
  have c2 : ¬ isV (t i) := by rw [hc]; decide
  rw [q_GM_work_26]
  simp only [↓ltE, jnE, ix_nI (show 60 * k + i < 180 by omega) (by omega), gdE, nI_clamp (show 60 * k + i < 2 ^ 31 by omega), hT.2 i hi, i10, if_false, ite_self, gD_0 c1, gV_0 c2, i00, if_true, if_pos hc, ix_nI hd (by omega), nI_clamp (show d + 1 < 2 ^ 31 by omega), nI_1, Nat.add_assoc]
theorem ww_c (hk : k < 3) (h60 : n ≤ 60) (hi : i < n) (hT : TX M k n t) (hd : d + 1 < 8) (hc : t i = 41) : q_GM_work_26 (f + 1) M p1 (nI (60 * k + i)) 0 (nI (d + 1)) K = bd (f_GM_operand M (nI d) (M 15 (d + 1))) fun S => q_GM_work_26 f S p1 (nI (60 * k + (i + 1))) 0 (nI d) K := by
  have c1 : ¬ isD (t i) := by rw [hc]; decide
  have c2 : ¬ isV (t i) := by rw [hc]; decide
  have c3 : t i ≠ 40 := by rw [hc]; decide
  rw [q_GM_work_26]
  simp only [↓ltE, jnE, ix_nI (show 60 * k + i < 180 by omega) (by omega), gdE, nI_clamp (show 60 * k + i < 2 ^ 31 by omega), hT.2 i hi, if_pos (show (0 : Int32) < nI (d + 1) from nI_lt (a := 0) (by omega) (by omega)), gD_0 c1, gV_0 c2, i00, if_true, if_neg c3, if_pos hc, ix_nI hd (by omega), nI_clamp (show d + 1 < 2 ^ 31 by omega), nI_1, nI_m1, Nat.add_assoc]
theorem ww_v {a : Nat} (hk : k < 3) (h60 : n ≤ 60) (hi : i < n) (hT : TX M k n t) (hc : isV (t i)) (ha : a < 8) (hv : t i - 97 = nI a) : q_GM_work_26 (f + 1) M p1 (nI (60 * k + i)) 1 (nI d) K = bd (f_GM_operand M (nI d) (M 12 a)) fun S => q_GM_work_26 f S p1 (nI (60 * k + (i + 1))) 0 (nI d) K := by
  have c1 : ¬ isD (t i) := fun z => by have := z.2; have := hc.1; omega
  rw [q_GM_work_26]
  simp only [↓ltE, jnE, ix_nI (show 60 * k + i < 180 by omega) (by omega), gdE, nI_clamp (show 60 * k + i < 2 ^ 31 by omega), hT.2 i hi, i10, if_false, ite_self, gD_0 c1, gV_1 hc, i00, if_true, hv, ix_nI ha (by omega), nI_clamp (show a < 2 ^ 31 by omega), nI_1, Nat.add_assoc]
theorem ww_d (hk : k < 3) (h60 : n ≤ 60) (hi : i < n) (hT : TX M k n t) (hc : isD (t i)) : q_GM_work_26 (f + 1) M p1 (nI (60 * k + i)) 1 (nI d) K = q_GM_work_89 (fz 2000) M (t i) 1 (nI d) p1 (t i - 48) (nI (60 * k + (i + 1))) fun S130 y6 y4 => bd (f_GM_operand S130 (nI d) y6) fun S => q_GM_work_26 f S p1 y4 0 (nI d) K := by
  rw [q_GM_work_26]
  simp only [↓ltE, jnE, ix_nI (show 60 * k + i < 180 by omega) (by omega), gdE, nI_clamp (show 60 * k + i < 2 ^ 31 by omega), hT.2 i hi, i10, if_false, ite_self, gD_1 hc, nI_1, Nat.add_assoc]
theorem ww_a (hk : k < 3) (h60 : n ≤ 60) (hi : i < n) (hT : TX M k n t) (hd : d < 8) (hc : isO (t i)) : q_GM_work_26 (f + 1) M p1 (nI (60 * k + i)) 0 (nI d) K = q_GM_work_26 f (stM M 16 d (t i)) p1 (nI (60 * k + (i + 1))) 1 (nI d) K := by
  have c1 : ¬ isD (t i) := by rcases hc with q | q | q | q | q | q | q <;> (rw [q]; decide)
  have c2 : ¬ isV (t i) := by rcases hc with q | q | q | q | q | q | q <;> (rw [q]; decide)
  have c3 : t i ≠ 40 := nd (P := isO) 40 hc (by decide)
  have c4 : t i ≠ 41 := nd (P := isO) 41 hc (by decide)
  have c5 : t i ≠ 59 := nd (P := isO) 59 hc (by decide)
  have c6 : t i ≠ 123 := nd (P := isO) 123 hc (by decide)
  rw [q_GM_work_26]
  simp only [↓ltE, jnE, ix_nI (show 60 * k + i < 180 by omega) (by omega), gdE, nI_clamp (show 60 * k + i < 2 ^ 31 by omega), hT.2 i hi, if_neg c5, if_neg c6, ite_self, gD_0 c1, gV_0 c2, i00, if_true, if_neg c3, if_neg c4, ix_nI hd (by omega), nI_clamp (show d < 2 ^ 31 by omega), nI_1, Nat.add_assoc]
theorem ww_e (hk : k < 3) (h60 : n ≤ 60) (hi : i < n) (hT : TX M k n t) (hc : t i = 59 ∨ t i = 123) : q_GM_work_26 (f + 1) M p1 (nI (60 * k + i)) 0 (nI 0) K = K M (nI (60 * k + i)) 0 (nI 0) := by
  rw [q_GM_work_26]
  simp only [↓ltE, jnE, ix_nI (show 60 * k + i < 180 by omega) (by omega), gdE, nI_clamp (show 60 * k + i < 2 ^ 31 by omega), hT.2 i hi, nI_0, if_neg (show ¬ (0 : Int32) < 0 by decide), i00, if_true]
  rcases hc with q | q
  · rw [if_pos q]
  · rw [if_neg (by rw [q]; decide), if_pos q]
end
theorem cur_s (S : CS) (v : Int32) : (stR S 7 1 v).2 7 1 = v := by rw [stR_at, if_pos rfl, if_pos rfl]
theorem cur_c (S : CS) (v w : Int32) : stR (stR S 7 1 v) 7 1 w = stR S 7 1 w := stR_stR
theorem num_q {t : Nat → Int32} {k n : Nat} {S : CS} (hk : k < 3) (hW : WT t n) (hn : S.1 k 0 6 = nI n) (ht : S.1 k 1 = t) {s : List (Nat × Nat)} {h : Nat} {x pr : Int32} {st : Nat} {a b c d : Int32} : ∀ (f f2 j g : Nat) (v : Int32) (M : MS), TX M k n t → j ≤ n → rr t j = (s, 7, h, x, g, pr, st) → f + g = 5 → n < j + f2 → ∃ j' g' v', j ≤ j' ∧ j' < n ∧ rr t j' = (s, 7, h, x, g', pr, st) ∧ ¬ isD (t j') ∧ q_CA_number_4 f (stR S 7 1 (nI j)) k (nI g) v = (v', stR S 7 1 (nI j')) ∧ ∀ K, q_GM_work_89 f2 M a b c d v (nI (60 * k + j)) K = K M v' (nI (60 * k + j')) := by
  intro f
  have h60 := hW.1
  induction f with
  | zero =>
    intro f2 j g v M hT hj hr hf
    have := (hW.ws hj)
    rw [hr] at this
    have := this.2.2.2.1
    omega
  | succ f ih =>
    intro f2 j g v M hT hj hr hf hf2
    have hjn : j < n := hW.lt hj (by rw [hr]; show (7 : Nat) ≠ 0; decide)
    have hg : g ≤ 4 := by have := (hW.ws hj); rw [hr] at this; exact this.2.2.2.1
    have hs := hW.step hjn
    rw [hr] at hs
    obtain ⟨f3, rfl⟩ : ∃ f3, f2 = f3 + 1 := ⟨f2 - 1, by omega⟩
    have e2 : ∀ K, q_GM_work_89 (f3 + 1) M a b c d v (nI (60 * k + j)) K = if f_GM_in (t j) 48 57 = 0 then K M v (nI (60 * k + j)) else q_GM_work_89 f3 M a b c d (10 * v + t j - 48) (nI (60 * k + (j + 1))) K := fun K => by
      rw [q_GM_work_89]
      simp only [↓ltE, jnE, ix_nI (show 60 * k + j < 180 by omega) (by omega), gdE, nI_clamp (show 60 * k + j < 2 ^ 31 by omega), hT.2 j hjn, nI_1, Nat.add_assoc]
    have e1 : q_CA_number_4 (f + 1) (stR S 7 1 (nI j)) k (nI g) v = if (4 : Int32) ≤ nI g then (v, stR S 7 1 (nI j)) else if f_GS_isDigit (t j) = 0 then (v, stR S 7 1 (nI j)) else q_CA_number_4 f (stR S 7 1 (nI (j + 1))) k (nI (g + 1)) (v * 10 + t j - 48) := by
      rw [q_CA_number_4]
      dsimp only
      rw [cur_s, sgn (S := stR S 7 1 (nI j)) hn h60 hjn, cur_c, nI_1, nI_1]
      show (if (4 : Int32) ≤ nI g then _ else if f_GS_isDigit (S.1 k 1 j) = 0 then _ else q_CA_number_4 f _ k _ (v * 10 + S.1 k 1 j - 48)) = _
      rw [ht]
    rw [e1]
    by_cases q : isD (t j)
    · rcases inv_78 (Or.inl rfl) hs with ⟨_, _, w3, w⟩ | ⟨w, _⟩
      · obtain ⟨j', g', v', b1, b2, b3, b4, b5, b6⟩ := ih f3 (j + 1) (g + 1) (v * 10 + t j - 48) M hT (by omega) w (by omega) (by omega)
        refine ⟨j', g', v', by omega, b2, b3, b4, ?_, fun K => ?_⟩
        · rw [if_neg (show ¬ (4 : Int32) ≤ nI g from nI_ge (b := 4) w3 (by omega)), if_neg (fun z => ((gs_D _).1.mp z) q)]
          exact b5
        · rw [e2, gD_1 q, if_neg (by decide), Int32.mul_comm 10 v]
          exact b6 K
      · exact absurd ⟨rfl, q⟩ w
    · refine ⟨j, g, v, Nat.le_refl _, hjn, hr, q, ?_, fun K => ?_⟩
      · rw [if_pos ((gs_D _).1.mpr q), ite_self]
      · rw [e2, gD_0 q, if_pos rfl]
