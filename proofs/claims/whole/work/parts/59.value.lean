/-- what working an expression out leaves alone -/
def WV (M M' : MS) : Prop := (∀ c, c ≠ 0 → c < 15 ∨ 18 < c → M' c = M c) ∧ (∀ i, i ≠ 28 → i ≠ 29 → M' 0 i = M 0 i)
theorem pr_bot {t : Nat → Int32} {n p : Nat} (h : WT t n) (hp : p ≤ n) (hs : (rr t p).1 ≠ []) : (rr t p).2.2.2.2.2.1 = t (bot (rr t p).1 0) - 65 := by
  have := WX_run (h.run hp)
  obtain ⟨stk, e, hh, x, g, pr, st, w⟩ := rs7 (rr t p)
  rw [w] at this hs ⊢
  exact this.2.2.2.2.1 hs
theorem val_s {S : CS} {k n i : Nat} {t : Nat → Int32} {M : MS} (hk : k < 3) (hW : WT t n) (hn : S.1 k 0 6 = nI n) (ht : S.1 k 1 = t) {s : List (Nat × Nat)} {h : Nat} {x : Int32} {g : Nat} {pr : Int32} {st : Nat} (hi : i < n) (hr : rr t i = (s, 6, h, x, g, pr, st)) (hE : EB t s) (hT : TX M k n t) (hV : ∀ j, j < 8 → M 12 j = S.2 8 j) :
    ∃ v j e g' M', f_CA_valueAt S k (nI i) = (v, stR S 7 1 (nI j)) ∧ i < j ∧ j < n ∧ rr t j = (s, e, h, x, g', pr, st) ∧ t j = x ∧ (t j = 59 ∧ rr t (j + 1) = (s, 2, h, x, g', pr, st) ∨ t j = 123 ∧ rr t (j + 1) = ((h, j) :: s, 2, h, x, g', pr, st)) ∧ f_GM_work M (nI (60 * k + i)) = some (v, M') ∧ M' 0 29 = nI (60 * k + j) ∧ WV M M' := by
  have h60 := hW.1
  have hne : s ≠ [] := by
    have := hW.ws (Nat.le_of_lt hi)
    rw [hr] at this
    exact this.2.2.2.2.2.2.2.2.2.1 (by omega)
  have hx0 : exl t s = 0 := by unfold exl; rw [blk_EB hE]; omega
  have r28 : stM (stM (stM M 0 28 0) 17 0 0) 16 0 0 0 28 = nI 0 := by rw [stM_o (by decide), stM_o (by decide), stM_s, upd_s]; rfl
  have w0 : WV M (stM (stM (stM M 0 28 0) 17 0 0) 16 0 0) := ⟨fun c a b => by rw [stM_o (by omega), stM_o (by omega), stM_o a], fun i a b => by rw [stM_o (by decide), stM_o (by decide), stM_s, upd_o a]⟩
  obtain ⟨v, j, e, g', M2, q, b1, b2, b3, b4, b5, b6, b6', b7, b8, b9, b10, b11⟩ := exp_of (p1 := nI (60 * k + i)) hk hW hn ht (opd_all hk hW hn ht (fz 7)) i s h x g pr st (stM (stM (stM M 0 28 0) 17 0 0) 16 0 0) 0 0 hi hr (by rw [fz_eq]; omega) ⟨by rw [w0.1 2 (by decide) (by omega)]; exact hT.1, fun a ha => by rw [w0.1 1 (by decide) (by omega)]; exact hT.2 a ha⟩ (fun a ha => by rw [w0.1 12 (by decide) (by omega)]; exact hV a ha) r28 (by rw [stM_o (by decide), stM_s, upd_s]; rfl) (by rw [stM_s, upd_s]) (EB_pop hE) (by rw [hx0])
  have hst := hW.step b3
  rw [b4] at hst
  have h40 : ∀ a l, s = a :: l → t a.1 ≠ 40 := fun a l z w => by
    subst z
    have := hE.1.1
    have := kd_1 w
    omega
  have hxx : x = 59 ∨ x = 123 := by
    have := hW.ws (Nat.le_of_lt b3)
    rw [b4] at this
    rcases this.2.2.2.2.2.2.2.2.2.2.1 (by omega) with z | z
    · exact Or.inl z
    · exact Or.inr z.1
  have hend : t j = x ∧ (t j = 59 ∧ rr t (j + 1) = (s, 2, h, x, g', pr, st) ∨ t j = 123 ∧ rr t (j + 1) = ((h, j) :: s, 2, h, x, g', pr, st)) := by
    rcases inv_78 b5 hst with ⟨z1, z2, _⟩ | ⟨_, ⟨z, _⟩ | ⟨a, l, _, z1, z2, _⟩ | ⟨a, l, _, z1, z2, z3, z4, z5, z6⟩ | ⟨a, l, _, z1, z2, z3, z4, z5⟩⟩
    · exact absurd z2 (b6' z1)
    · exact absurd z b6
    · exact absurd z2 (h40 a l z1)
    · exact ⟨z3, Or.inr ⟨z4, z6⟩⟩
    · refine ⟨z3, Or.inl ⟨?_, z5⟩⟩
      rcases hxx with z | z
      · rw [z3, z]
      · rw [z3, z] at z4; exact absurd rfl z4
  have e7 : f_CA_valueAt S k (nI i) = (v, stR S 7 1 (nI j)) := by
    unfold f_CA_valueAt f_CA_expr0
    dsimp only
    rw [hx0, nI_0] at b1
    rw [b1]
  have hwk : f_GM_work M (nI (60 * k + i)) = some (v, stM M2 0 29 (nI (60 * k + j))) := by
    unfold f_GM_work
    have e0 : (0 : Int32).toNatClampNeg = 0 := by decide
    simp only [↓ltE, show ix (0 : Int32) 8 = true by decide, gdE, e0]
    have hf : fz 2000 = (fz 2000 - q - 1 + 1) + q := by rw [fz_eq]; omega
    have b8 := fun f K => b8 f K
    simp only [nI_0] at b8
    have e9 := fun K => ww_e (t := t) (f := fz 2000 - q - 1) (p1 := nI (60 * k + i)) (K := K) hk h60 b3 (b9.tx ⟨by rw [w0.1 2 (by decide) (by omega)]; exact hT.1, fun a ha => by rw [w0.1 1 (by decide) (by omega)]; exact hT.2 a ha⟩) (by rcases hend.2 with z | z; exact Or.inl z.1; exact Or.inr z.1)
    simp only [nI_0] at e9
    rw [hf, b8, e9]
    simp only [stM_o (show (15 : Nat) ≠ 0 by decide), b11]
  refine ⟨v, j, e, g', stM M2 0 29 (nI (60 * k + j)), e7, b2, b3, b4, hend.1, hend.2, hwk, by rw [stM_s, upd_s], fun c a b => by rw [stM_o a, b9.1 c a b, w0.1 c a b], fun a c1 c2 => by rw [stM_s, upd_o c2, b9.2.1 a c1, w0.2 a c1 c2]⟩
