theorem fin_s {nn : Nat → Nat} {S S1 : CS} {M M1 : MS} {L k p : Nat} {l : FLs} (hK : LKd S M nn) (hP : SPo S M S1 M1) (hT : Top S1 M1 nn L k p l) (e1 : f_MA_step S = f_MA_leaveEndedBlocks S1) (e2 : f_GM_step M = bd (f_GM_settle M1) fun S => some S) :
    ∃ M', f_GM_step M = some M' ∧ SPo S M (f_MA_step S) M' ∧ (((f_MA_step S).2 9 3 = 0 ∧ M' 0 20 = 0) ∨ ∃ L k p l, Top (f_MA_step S) M' nn L k p l ∧ (f_MA_step S).1 k 1 p ≠ 125) := by
  obtain ⟨M', b1, b2, b3, b4⟩ := set_s (LKd_k hK hP.ck hP.mk) hT
  rw [e1, e2, b1]
  exact ⟨M', rfl, hP.then b2 b3, b4⟩
theorem ck_7 (S : CS) (v : Int32) : CK S (stR S 7 1 v) := CK.st (by decide) (by decide) (by decide)
theorem WV.mk {M M' : MS} (h : WV M M') : ∀ c, 0 < c → c < 15 → M' c = M c := fun c a b => h.1 c (by omega) (by omega)
theorem step_s {nn : Nat → Nat} {S : CS} {M : MS} {L k p c : Nat} {l : FLs} (hK : LKd S M nn) (hT : Top S M nn L k p l) (hc : S.1 k 1 p ≠ 125) (hV : ∀ j, j < 8 → M 12 j = S.2 8 j) (hO : ∀ j, j < 24 → M 13 j = S.2 12 j) (hcn : M 0 19 = S.2 9 4) (h94 : S.2 9 4 = nI c) (hc30 : c < 2 ^ 30) :
    ∃ M', f_GM_step M = some M' ∧ SPo S M (f_MA_step S) M' ∧ (((f_MA_step S).2 9 3 = 0 ∧ M' 0 20 = 0) ∨ ∃ L k p l, Top (f_MA_step S) M' nn L k p l ∧ (f_MA_step S).1 k 1 p ≠ 125) := by
  have hF := hT.1
  obtain ⟨a1, a2, a3, a4, a5, a6⟩ := id hF
  obtain ⟨k1, k2, k3, k4, k5, k6, k7⟩ := hK.1 k a2
  have h60 := k2.1
  have hl : l.length < 26 := by omega
  have hpn := a6.1
  obtain ⟨_, t2, t3, t4, t5, t6, t7, t8⟩ := id hT
  have eC : f_MA_step S = if f_GS_isLetter (S.1 k 1 p) = 0 then f_MA_leaveEndedBlocks (stR (f_MA_placeBehind S k (nI p)).2 11 l.length (f_MA_placeBehind S k (nI p)).1) else f_MA_leaveEndedBlocks (f_MA_enter (stR S 11 l.length (nI (p + 2))) (S.1 k 1 p - 65)) := by
    unfold f_MA_step
    rw [ct_s hT hl, if_neg (by omega)]
    dsimp only
    rw [t5, nI_pred, nI_clamp (by omega), t3, Nat.add_sub_cancel, sgn k1 h60 hpn, nI_2]
  obtain ⟨stk, e, hh, x, g, pr, st, w0⟩ := rs7 (rr (S.1 k 1) p)
  have hW := k2.ws (Nat.le_of_lt hpn)
  have he : e = 2 ∨ e = 3 := by have := a6.2.1; rw [w0] at this; exact this
  have hpr : pr = nI L := by have := a6.2.2.2; rw [w0] at this; exact this
  have hst := k2.step hpn
  rw [w0] at hst hW
  have hE : EB (S.1 k 1) stk := hW.2.2.2.2.2.1 (by omega)
  have hne : stk ≠ [] := hW.2.2.2.2.2.2.2.2.2.1 (by omega)
  -- what a value brings
  have vv : ∀ i, i < nn k → ∀ x st, rr (S.1 k 1) i = (stk, 6, p, x, g, pr, st) → ∃ v j e g' M2, f_CA_valueAt S k (nI i) = (v, stR S 7 1 (nI j)) ∧ i < j ∧ j < nn k ∧ rr (S.1 k 1) j = (stk, e, p, x, g', pr, st) ∧ S.1 k 1 j = x ∧ (S.1 k 1 j = 59 ∧ rr (S.1 k 1) (j + 1) = (stk, 2, p, x, g', pr, st) ∨ S.1 k 1 j = 123 ∧ rr (S.1 k 1) (j + 1) = ((p, j) :: stk, 2, p, x, g', pr, st)) ∧ f_GM_work M (nI (60 * k + i)) = some (v, M2) ∧ M2 0 29 = nI (60 * k + j) ∧ WV M M2 ∧ PF (S.1 k 1) (nn k) (j + 1) L := by
    intro i hi x st hr
    obtain ⟨v, j, e, g', M2, b1, b2, b3, b4, b5, b6, b7, b8, b9⟩ := val_s a2 k2 k1 rfl hi hr hE k5 hV
    refine ⟨v, j, e, g', M2, b1, b2, b3, b4, b5, b6, b7, b8, b9, ?_⟩
    rcases b6 with ⟨_, w⟩ | ⟨_, w⟩
    · exact PF2 k2 (by omega) (by rw [w]) (by rw [w]; exact hpr)
    · exact PF2 k2 (by omega) (by rw [w]) (by rw [w]; exact hpr)
  have kp : (60 * k + p) < 2 ^ 31 := by omega
  rcases inv_23 he hst with ⟨_, z, _⟩ | ⟨_, _, z, _⟩ | ⟨_, _, z⟩
  · exact absurd z a6.2.2.1
  · exact absurd z hc
  · rcases z with ⟨z, w⟩ | ⟨z, w⟩ | ⟨z, w⟩ | ⟨z, w⟩
    · -- an assignment
      have nL : ¬ isL (S.1 k 1 p) := fun u => by have := u.2; have := z.1; omega
      have h1 : p + 1 < nn k := k2.lt (by omega) (by rw [w]; show (4 : Nat) ≠ 0; decide)
      have hs1 := k2.step h1
      rw [w] at hs1
      obtain ⟨_, w2⟩ := inv_4 hs1
      have h2 : p + 2 < nn k := k2.lt (by omega) (by show (rr (S.1 k 1) (p + 1 + 1)).2.1 ≠ 0; rw [w2]; show (6 : Nat) ≠ 0; decide)
      obtain ⟨v, j, e, g', M2, b1, b2, b3, b4, b5, b6, b7, b8, b9, b10⟩ := vv (p + 2) h2 59 (st + 1) w2
      obtain ⟨a, ha, hva⟩ := vno_s z
      have eP : f_MA_placeBehind S k (nI p) = (nI (j + 1), stR (stR S 7 1 (nI j)) 8 a v) := by
        unfold f_MA_placeBehind
        dsimp only
        rw [sgn k1 h60 hpn, if_neg (fun u => (gs_V _).1.mp u z), nI_2, b1, hva]
        unfold f_CA_cursor f_CA_assign
        dsimp only
        rw [cur_s, nI_1]
        unfold f_GS_isVariableNumber
        rw [if_neg (nI_pos (by omega)), if_neg (show ¬ (8 : Int32) ≤ nI a from nI_ge (b := 8) ha (by omega)), if_neg (by decide), nI_clamp (by omega)]
      have m12 := b9.mk 12 (by omega) (by omega)
      refine fin_s (L := L) (k := k) (p := j + 1) (l := l) (S1 := stR (stR (stR S 7 1 (nI j)) 8 a v) 11 l.length (nI (j + 1))) (M1 := stM (stM M2 12 a v) 0 21 (nI (60 * k + (j + 1)))) hK ?_ ?_ ?_ ?_
      · refine ⟨rfl, fun c hc => by rw [stR_o (by omega), stR_o (by omega), stR_o (by omega)], fun c h1 h2 => by rw [stM_o (by omega), stM_o (by omega), b9.mk c h1 (by omega)], by rw [stM_s, upd_o (by decide), stM_o (by decide), b9.2 3 (by decide) (by decide)], fun i hi => ?_, fun i hi => ?_, ?_, c, c, hc30, h94, ?_, by omega⟩
        · rw [stM_o (by decide), stM_s, m12, stR_o (by decide), stR_s, stR_o (by decide)]
          by_cases u : i = a
          · subst u; rw [upd_s, upd_s]
          · rw [upd_o u, upd_o u]; exact hV i hi
        · rw [stM_o (by decide), stM_o (by decide), b9.mk 13 (by omega) (by omega), stR_o (by decide), stR_o (by decide), stR_o (by decide)]; exact hO i hi
        · rw [stM_s, upd_o (by decide), stM_o (by decide), b9.2 19 (by decide) (by decide), stR_o (by decide), stR_o (by decide), stR_o (by decide)]; exact hcn
        · rw [stR_o (by decide), stR_o (by decide), stR_o (by decide)]; exact h94
      · exact Top_mv (Top_k (S' := stR (stR S 7 1 (nI j)) 8 a v) (M' := stM M2 12 a v) hT ((ck_7 S _).tr (CK.st (by decide) (by decide) (by decide))) (by rw [stR_o (by decide), stR_o (by decide)]) (by rw [stR_o (by decide), stR_o (by decide)]) (by rw [stR_o (by decide), stR_o (by decide)]) (by rw [stM_o (by decide), b9.mk 14 (by omega) (by omega)]) (by rw [stM_o (by decide), b9.2 21 (by decide) (by decide)]) (by rw [stM_o (by decide), b9.2 23 (by decide) (by decide)]) (by rw [stM_o (by decide), b9.2 20 (by decide) (by decide)])) b10
      · rw [eC, if_pos ((gs_L _).1.mpr nL), eP]
      · unfold f_GM_step
        have r29 : stM M2 12 a v 0 29 = nI (60 * k + j) := by rw [stM_o (by decide)]; exact b8
        have b7' : f_GM_work M (nI (60 * k + (p + 2))) = some (v, M2) := b7
        simp only [↓ltE, jnE, t4, ix_nI (show 60 * k + p < 180 by omega) (by omega), gdE, nI_clamp kp, k5.2 p hpn, gL_0 nL, i00, if_true, if_neg (nd (P := isV) 63 z (by decide)), if_neg (nd (P := isV) 64 z (by decide)), if_neg (nd (P := isV) 33 z (by decide)), nI_2, Nat.add_assoc, b7', bd2, hva, ix_nI ha (by omega), nI_clamp (show a < 2 ^ 31 by omega), r29, nI_1]
    · -- a call
      obtain ⟨l1, l2, l3⟩ := lno_s z
      have h1 : p + 1 < nn k := k2.lt (by omega) (by rw [w]; show (5 : Nat) ≠ 0; decide)
      have hs1 := k2.step h1
      rw [w] at hs1
      obtain ⟨_, w2⟩ := inv_5 hs1
      have hP2 : PF (S.1 k 1) (nn k) (p + 2) L := PF2 k2 (by omega) (by show (rr (S.1 k 1) (p + 1 + 1)).2.1 = 2; rw [w2]) (by show (rr (S.1 k 1) (p + 1 + 1)).2.2.2.2.2.1 = nI L; rw [w2]; exact hpr)
      have hcall := (callOk k2 k3 a6.2.1 z a6.2.2.2 a1 (nn k) hpn (Nat.le_refl _)).2
      obtain ⟨j, j1, j2, j3, j4, j5⟩ := hK.2.2.1 L a1 a3
      have ejk : j = k := by
        have := j3.symm.trans a4
        have := (nI_eq (by omega) (by omega)).mp this
        omega
      subst ejk
      obtain ⟨c1, c2⟩ := j5 _ l2 hcall
      obtain ⟨j', d1, d2, d3, d4, d5⟩ := hK.2.2.1 _ l2 c2
      obtain ⟨q1, q2, q3, q4, q5, q6, q7⟩ := hK.1 j' d1
      obtain ⟨b, e1, e2⟩ := ent q2 d2
      have hb60 := e2.1
      have hn60 := q2.1
      have hcnt : cntTo (S.2 6 (lno (S.1 j 1 p))) 26 + 1 ≤ cntTo (S.2 6 L) 26 := by
        have := cnt_sub (a := S.2 6 (lno (S.1 j 1 p))) (b := S.2 6 L) (L := lno (S.1 j 1 p)) (fun i hi u => hK.2.2.2.2 L _ i a1 l2 c1 u) c1 (hK.2.2.2.1 _ l2) 26 (Nat.le_refl _)
        rw [if_pos l2] at this
        exact this
      have eb : S.1 j' 5 (lno (S.1 j 1 p)) = nI b := by rw [(q4.2.2.2.2 _ l2 d2).1, e1]
      have eM : M 10 (lno (S.1 j 1 p)) + 1 = nI (60 * j' + (b + 2)) := by rw [d4, e1, nI_add, nI_1]; congr 1; omega
      have s10 : CK S (stR S 11 l.length (nI (p + 2))) := CK.st (by decide) (by decide) (by decide)
      have eN : f_MA_enter (stR S 11 l.length (nI (p + 2))) (nI (lno (S.1 j 1 p))) = stR (stR (stR (stR S 11 l.length (nI (p + 2))) 10 (l.length + 1) (nI (lno (S.1 j 1 p)))) 11 (l.length + 1) (nI (b + 2))) 9 3 (nI (l.length + 1 + 1)) := by
        unfold f_MA_enter
        rw [ho_s l2 d1 (by rw [stR_o (by decide)]; exact d3), if_neg (by omega)]
        have r93 : (stR S 11 l.length (nI (p + 2))).2 9 3 = nI (l.length + 1) := by rw [stR_o (by decide)]; exact t5
        have r93' : (stR (stR S 11 l.length (nI (p + 2))) 10 (l.length + 1) (nI (lno (S.1 j 1 p)))).2 9 3 = nI (l.length + 1) := by rw [stR_o (by decide)]; exact r93
        dsimp only
        rw [r93, if_pos (show nI (l.length + 1) < (26 : Int32) from nI_lt (b := 26) (by omega) (by omega)), nI_clamp (by omega), r93', nI_clamp (by omega), Nat.add_sub_cancel]
        have r5 : f_MT_firstPlaceOf (stR (stR S 11 l.length (nI (p + 2))) 10 (l.length + 1) (nI (lno (S.1 j 1 p)))) j' (nI (lno (S.1 j 1 p))) = nI (b + 2) := by
          unfold f_MT_firstPlaceOf
          dsimp only
          rw [isLn l2, if_neg (by decide), nI_clamp (by omega)]
          show S.1 j' 5 (lno (S.1 j 1 p)) + 2 = _
          rw [eb, nI_2]
        rw [r5, stR_o (show (9 : Nat) ≠ 11 by decide), r93', nI_1]
      have hck : CK S (stR (stR (stR (stR S 11 l.length (nI (p + 2))) 10 (l.length + 1) (nI (lno (S.1 j 1 p)))) 11 (l.length + 1) (nI (b + 2))) 9 3 (nI (l.length + 1 + 1))) := ((s10.tr (CK.st (by decide) (by decide) (by decide))).tr (CK.st (by decide) (by decide) (by decide))).tr (CK.st (by decide) (by decide) (by decide))
      refine fin_s (L := lno (S.1 j 1 p)) (k := j') (p := b + 2) (l := (L, j, p + 2) :: l) (S1 := stR (stR (stR (stR S 11 l.length (nI (p + 2))) 10 (l.length + 1) (nI (lno (S.1 j 1 p)))) 11 (l.length + 1) (nI (b + 2))) 9 3 (nI (l.length + 1 + 1))) (M1 := stM (stM (stM M 14 l.length (nI (60 * j + (p + 2)))) 0 23 (nI (l.length + 1 + 1))) 0 21 (nI (60 * j' + (b + 2)))) hK ?_ ?_ ?_ ?_
      · refine ⟨rfl, fun c hc => by rw [stR_o (by omega), stR_o (by omega), stR_o (by omega), stR_o (by omega)], fun c h1 h2 => by rw [stM_o (by omega), stM_o (by omega), stM_o (by omega)], by rw [stM_s, upd_o (by decide), stM_s, upd_o (by decide), stM_o (by decide)], fun i hi => ?_, fun i hi => ?_, ?_, c, c, hc30, h94, ?_, by omega⟩
        · rw [stM_o (by decide), stM_o (by decide), stM_o (by decide), stR_o (by decide), stR_o (by decide), stR_o (by decide), stR_o (by decide)]; exact hV i hi
        · rw [stM_o (by decide), stM_o (by decide), stM_o (by decide), stR_o (by decide), stR_o (by decide), stR_o (by decide), stR_o (by decide)]; exact hO i hi
        · rw [stM_s, upd_o (by decide), stM_s, upd_o (by decide), stM_o (by decide), stR_s, upd_o (by decide), stR_o (by decide), stR_o (by decide), stR_o (by decide)]; exact hcn
        · rw [stR_s, upd_o (by decide), stR_o (by decide), stR_o (by decide), stR_o (by decide)]; exact h94
      · refine ⟨FrOK_k ⟨l2, d1, c2, d3, ?_, e2⟩ hck, ?_, ?_, ?_, ?_, ?_, ?_, FrOK_k ⟨a1, a2, a3, a4, a5, hP2⟩ hck, ?_, ?_, ?_, LF_k hck t8 fun i hi => ⟨?_, ?_, ?_⟩⟩
        · show cntTo (S.2 6 (lno (S.1 j 1 p))) 26 + (l.length + 1) ≤ 25
          omega
        · rw [stR_o (by decide), stR_o (by decide), stR_s]; exact upd_s
        · rw [stR_o (by decide), stR_s]; exact upd_s
        · rw [stM_s, upd_s]
        · rw [stR_s, upd_s]; rfl
        · rw [stM_s, upd_o (by decide), stM_s, upd_s]; rfl
        · rw [stM_s, upd_o (by decide), stM_s, upd_o (by decide), stM_o (by decide)]; exact t7
        · rw [stR_o (by decide), stR_o (by decide), stR_s, upd_o (by omega), stR_o (by decide)]; exact t2
        · rw [stR_o (by decide), stR_s, upd_o (by omega), stR_o (by decide), stR_s, upd_s]
        · rw [stM_o (by decide), stM_o (by decide), stM_s, upd_s]
        · rw [stR_o (by decide), stR_o (by decide), stR_s, upd_o (by omega), stR_o (by decide)]
        · rw [stR_o (by decide), stR_s, upd_o (by omega), stR_o (by decide), stR_s, upd_o (by omega)]
        · rw [stM_o (by decide), stM_o (by decide), stM_s, upd_o (by omega)]
      · rw [eC, if_neg (fun u => (gs_L _).1.mp u z), l1, eN]
      · unfold f_GM_step
        have r23 : stM M 14 l.length (nI (60 * j + (p + 2))) 0 23 = nI (l.length + 1) := by rw [stM_o (by decide)]; exact t6
        have r10 : ∀ v, stM (stM M 14 l.length (nI (60 * j + (p + 2)))) 0 23 v 10 = M 10 := fun v => by rw [stM_o (by decide), stM_o (by decide)]
        simp only [↓ltE, jnE, t4, ix_nI (show 60 * j + p < 180 by omega) (by omega), gdE, nI_clamp kp, k5.2 p hpn, gL_1 z, i10, if_false, nI_2, Nat.add_assoc, t6, show nI (l.length + 1) - 1 = nI l.length from nI_pred _, ix_nI hl (by omega), nI_clamp (show l.length < 2 ^ 31 by omega), r23, nI_1, l1, ix_nI l2 (by omega), nI_clamp (show lno (S.1 j 1 p) < 2 ^ 31 by omega), r10, eM]
    · -- an output
      have nL : ¬ isL (S.1 k 1 p) := by rw [z]; decide
      have nV : ¬ isV (S.1 k 1 p) := by rw [z]; decide
      have h1 : p + 1 < nn k := k2.lt (by omega) (by rw [w]; show (6 : Nat) ≠ 0; decide)
      obtain ⟨v, j, e, g', M2, b1, b2, b3, b4, b5, b6, b7, b8, b9, b10⟩ := vv (p + 1) h1 59 (st + 1) w
      have r94 : (stR S 7 1 (nI j)).2 9 4 = nI c := by rw [stR_o (by decide)]; exact h94
      have m19 : M2 0 19 = nI c := by rw [b9.2 19 (by decide) (by decide), hcn, h94]
      have eP : ∀ S', f_MA_keep (stR S 7 1 (nI j)) v = S' → f_MA_placeBehind S k (nI p) = (nI (j + 1), S') := fun S' hS' => by
        unfold f_MA_placeBehind
        dsimp only
        rw [sgn k1 h60 hpn, if_pos ((gs_V _).1.mpr nV), nI_1, b1, if_pos z]
        unfold f_CA_cursor
        dsimp only
        rw [cur_s, nI_1, hS']
      have eG : ∀ T, (if (24 : Int32) ≤ nI c then M2 else stM M2 13 c v) = T → ix (nI c) 24 = true ∨ (24 : Int32) ≤ nI c → T 0 19 = nI c → T 0 29 = nI (60 * k + j) → f_GM_step M = bd (f_GM_settle (stM (stM T 0 19 (nI (c + 1))) 0 21 (nI (60 * k + (j + 1))))) fun S => some S := fun T hTT hix hT19 hT29 => by
        unfold f_GM_step
        have r29 : stM T 0 19 (nI (c + 1)) 0 29 = nI (60 * k + j) := by rw [stM_s, upd_o (by decide)]; exact hT29
        simp only [↓ltE, jnE, t4, ix_nI (show 60 * k + p < 180 by omega) (by omega), gdE, nI_clamp kp, k5.2 p hpn, gL_0 nL, i00, if_true, if_neg (show ¬ S.1 k 1 p = 63 by rw [z]; decide), if_neg (show ¬ S.1 k 1 p = 64 by rw [z]; decide), if_pos z, nI_1, Nat.add_assoc, b7, bd2, m19, nI_clamp (show c < 2 ^ 31 by omega)]
        by_cases u : (24 : Int32) ≤ nI c
        · rw [if_pos u] at hTT
          subst hTT
          rw [if_pos u]
          simp only [hT19, r29, nI_1, Nat.add_assoc]
        · rw [if_neg u] at hTT
          rw [if_neg u, hTT]
          rcases hix with hix | hix
          · simp only [hix, gdE, hT19, r29, nI_1, Nat.add_assoc]
          · exact absurd hix u
      by_cases u : 24 ≤ c
      · have u' : (24 : Int32) ≤ nI c := nI_le (a := 24) u (by omega)
        have eK : f_MA_keep (stR S 7 1 (nI j)) v = stR (stR S 7 1 (nI j)) 9 4 (nI (c + 1)) := by
          unfold f_MA_keep
          dsimp only
          rw [r94, if_pos u', nI_1]
        refine fin_s (L := L) (k := k) (p := j + 1) (l := l) (S1 := stR (stR (stR S 7 1 (nI j)) 9 4 (nI (c + 1))) 11 l.length (nI (j + 1))) (M1 := stM (stM M2 0 19 (nI (c + 1))) 0 21 (nI (60 * k + (j + 1)))) hK ?_ ?_ ?_ (eG M2 (by rw [if_pos u']) (Or.inr u') m19 b8)
        · refine ⟨rfl, fun c hc => by rw [stR_o (by omega), stR_o (by omega), stR_o (by omega)], fun c h1 h2 => by rw [stM_o (by omega), stM_o (by omega), b9.mk c h1 (by omega)], by rw [stM_s, upd_o (by decide), stM_s, upd_o (by decide), b9.2 3 (by decide) (by decide)], fun i hi => ?_, fun i hi => ?_, ?_, c, c + 1, hc30, h94, ?_, by omega⟩
          · rw [stM_o (by decide), stM_o (by decide), b9.mk 12 (by omega) (by omega), stR_o (by decide), stR_o (by decide), stR_o (by decide)]; exact hV i hi
          · rw [stM_o (by decide), stM_o (by decide), b9.mk 13 (by omega) (by omega), stR_o (by decide), stR_o (by decide), stR_o (by decide)]; exact hO i hi
          · rw [stM_s, upd_o (by decide), stM_s, upd_s, stR_o (by decide), stR_s, upd_s]
          · rw [stR_o (by decide), stR_s, upd_s]
        · exact Top_mv (Top_k (S' := stR (stR S 7 1 (nI j)) 9 4 (nI (c + 1))) (M' := stM M2 0 19 (nI (c + 1))) hT ((ck_7 S _).tr (CK.st (by decide) (by decide) (by decide))) (by rw [stR_o (by decide), stR_o (by decide)]) (by rw [stR_o (by decide), stR_o (by decide)]) (by rw [stR_s, upd_o (by decide), stR_o (by decide)]) (by rw [stM_o (by decide), b9.mk 14 (by omega) (by omega)]) (by rw [stM_s, upd_o (by decide), b9.2 21 (by decide) (by decide)]) (by rw [stM_s, upd_o (by decide), b9.2 23 (by decide) (by decide)]) (by rw [stM_s, upd_o (by decide), b9.2 20 (by decide) (by decide)])) b10
        · rw [eC, if_pos ((gs_L _).1.mpr nL), eP _ eK]
      · have u' : ¬ (24 : Int32) ≤ nI c := nI_ge (b := 24) (by omega) (by omega)
        have eK : f_MA_keep (stR S 7 1 (nI j)) v = stR (stR (stR S 7 1 (nI j)) 12 c v) 9 4 (nI (c + 1)) := by
          unfold f_MA_keep
          dsimp only
          rw [r94, if_neg u', nI_clamp (by omega), stR_o (show (9 : Nat) ≠ 12 by decide), r94, nI_1]
        refine fin_s (L := L) (k := k) (p := j + 1) (l := l) (S1 := stR (stR (stR (stR S 7 1 (nI j)) 12 c v) 9 4 (nI (c + 1))) 11 l.length (nI (j + 1))) (M1 := stM (stM (stM M2 13 c v) 0 19 (nI (c + 1))) 0 21 (nI (60 * k + (j + 1)))) hK ?_ ?_ ?_ (eG (stM M2 13 c v) (by rw [if_neg u']) (Or.inl (ix_nI (by omega) (by omega))) (by rw [stM_o (by decide)]; exact m19) (by rw [stM_o (by decide)]; exact b8))
        · refine ⟨rfl, fun c hc => by rw [stR_o (by omega), stR_o (by omega), stR_o (by omega), stR_o (by omega)], fun c h1 h2 => by rw [stM_o (by omega), stM_o (by omega), stM_o (by omega), b9.mk c h1 (by omega)], by rw [stM_s, upd_o (by decide), stM_s, upd_o (by decide), stM_o (by decide), b9.2 3 (by decide) (by decide)], fun i hi => ?_, fun i hi => ?_, ?_, c, c + 1, hc30, h94, ?_, by omega⟩
          · rw [stM_o (by decide), stM_o (by decide), stM_o (by decide), b9.mk 12 (by omega) (by omega), stR_o (by decide), stR_o (by decide), stR_o (by decide), stR_o (by decide)]; exact hV i hi
          · rw [stM_o (by decide), stM_o (by decide), stM_s, b9.mk 13 (by omega) (by omega), stR_o (by decide), stR_o (by decide), stR_s, stR_o (by decide)]
            by_cases y : i = c
            · subst y; rw [upd_s, upd_s]
            · rw [upd_o y, upd_o y]; exact hO i hi
          · rw [stM_s, upd_o (by decide), stM_s, upd_s, stR_o (by decide), stR_s, upd_s]
          · rw [stR_o (by decide), stR_s, upd_s]
        · exact Top_mv (Top_k (S' := stR (stR (stR S 7 1 (nI j)) 12 c v) 9 4 (nI (c + 1))) (M' := stM (stM M2 13 c v) 0 19 (nI (c + 1))) hT (((ck_7 S _).tr (CK.st (by decide) (by decide) (by decide))).tr (CK.st (by decide) (by decide) (by decide))) (by rw [stR_o (by decide), stR_o (by decide), stR_o (by decide)]) (by rw [stR_o (by decide), stR_o (by decide), stR_o (by decide)]) (by rw [stR_s, upd_o (by decide), stR_o (by decide), stR_o (by decide)]) (by rw [stM_o (by decide), stM_o (by decide), b9.mk 14 (by omega) (by omega)]) (by rw [stM_s, upd_o (by decide), stM_o (by decide), b9.2 21 (by decide) (by decide)]) (by rw [stM_s, upd_o (by decide), stM_o (by decide), b9.2 23 (by decide) (by decide)]) (by rw [stM_s, upd_o (by decide), stM_o (by decide), b9.2 20 (by decide) (by decide)])) b10
        · rw [eC, if_pos ((gs_L _).1.mpr nL), eP _ eK]
    · -- a test
      have nL : ¬ isL (S.1 k 1 p) := by rcases z with z | z <;> (rw [z]; decide)
      have nV : ¬ isV (S.1 k 1 p) := by rcases z with z | z <;> (rw [z]; decide)
      have n33 : ¬ S.1 k 1 p = 33 := by rcases z with z | z <;> (rw [z]; decide)
      have h1 : p + 1 < nn k := k2.lt (by omega) (by rw [w]; show (6 : Nat) ≠ 0; decide)
      obtain ⟨v, j, e, g', M2, b1, b2, b3, b4, b5, b6, b7, b8, b9, b10⟩ := vv (p + 1) h1 123 (st + 1) w
      have w6 : rr (S.1 k 1) (j + 1) = ((p, j) :: stk, 2, p, 123, g', pr, st + 1) := by
        rcases b6 with ⟨y, _⟩ | ⟨_, y⟩
        · rw [b5] at y; exact absurd y (by decide)
        · exact y
      obtain ⟨q, q1, q2, q3, q4, q5, q6⟩ := skip k2 z b3 hne w6 hpr
      obtain ⟨o3, o4⟩ := k4.1 q q1 q2 q3 _ _ q4
      obtain ⟨p5, p6, p7, p8⟩ := k6 q q1 q2 q3 _ _ q4
      have o4 : S.1 k 4 p = nI q := o4
      have p6 : M 5 (60 * k + j) = nI (60 * k + q) := p6
      have m5 := b9.mk 5 (by omega) (by omega)
      have m1 := b9.mk 1 (by omega) (by omega)
      have eP : f_MA_placeBehind S k (nI p) = (if v = 0 then (if S.1 k 1 (q + 1) = 58 then nI (q + 3) else nI (q + 1)) else nI (j + 1), stR S 7 1 (nI j)) := by
        unfold f_MA_placeBehind
        dsimp only
        rw [sgn k1 h60 hpn, if_pos ((gs_V _).1.mpr nV), nI_1, b1, if_neg n33]
        unfold f_CA_cursor
        dsimp only
        rw [cur_s, nI_1]
        by_cases u : v = 0
        · rw [if_pos u, if_pos u]
          have eb : f_MT_behindEndOf (stR S 7 1 (nI j)) k (nI p) = nI (q + 1) := by
            unfold f_MT_behindEndOf
            dsimp only
            rw [ipl (S := stR S 7 1 (nI j)) k1 h60 hpn, if_neg (by decide), nI_clamp (by omega)]
            rw [show (stR S 7 1 (nI j)).1 k 4 p = nI q from o4, nI_1]
          unfold f_MT_placeIfZero
          dsimp only
          rw [eb, sgn (S := stR S 7 1 (nI j)) k1 h60 q5, nI_2]
          rfl
        · rw [if_neg u, if_neg u]
      have eG : f_GM_step M = bd (f_GM_settle (stM M2 0 21 (if v = 0 then (if S.1 k 1 (q + 1) = 58 then nI (60 * k + (q + 3)) else nI (60 * k + (q + 1))) else nI (60 * k + (j + 1))))) fun S => some S := by
        have eb : f_GM_branch M (nI (60 * k + p)) = some (stM M2 0 21 (if v = 0 then (if S.1 k 1 (q + 1) = 58 then nI (60 * k + (q + 3)) else nI (60 * k + (q + 1))) else nI (60 * k + (j + 1)))) := by
          unfold f_GM_branch
          have r1 : stM M2 0 21 (nI (60 * k + (q + 1))) 0 21 = nI (60 * k + (q + 1)) := by rw [stM_s, upd_s]
          have r2 : stM M2 0 21 (nI (60 * k + (q + 1))) 1 = M 1 := by rw [stM_o (by decide), m1]
          simp only [↓ltE, jnE, nI_1, Nat.add_assoc, b7, bd2, b8, ix_nI (show 60 * k + p < 180 by omega) (by omega), gdE, nI_clamp kp, m1, m5, k5.2 p hpn, ix_nI (show 60 * k + j < 180 by omega) (by omega), nI_clamp (show 60 * k + j < 2 ^ 31 by omega), p6, r1, r2, ix_nI (show 60 * k + (q + 1) < 180 by omega) (by omega), nI_clamp (show 60 * k + (q + 1) < 2 ^ 31 by omega), k5.2 (q + 1) q5, nI_2, stM_stM]
          by_cases u : v = 0
          · simp only [if_pos u]
            rcases q6 with ⟨y, _⟩ | ⟨y, y2, _⟩
            · simp only [if_neg y, ite_self]
            · simp only [if_pos y, if_neg (show ¬ S.1 k 1 p = 64 by rw [y2]; decide), i00, if_true] <;> rfl
          · simp only [if_neg u, ite_self]
        unfold f_GM_step
        simp only [↓ltE, jnE, t4, ix_nI (show 60 * k + p < 180 by omega) (by omega), gdE, nI_clamp kp, k5.2 p hpn, gL_0 nL, i00, if_true, eb, bd]
        rcases z with z | z
        · rw [if_pos z]
        · rw [if_neg (by rw [z]; decide), if_pos z]
      have go : ∀ p', PF (S.1 k 1) (nn k) p' L → (if v = 0 then (if S.1 k 1 (q + 1) = 58 then nI (q + 3) else nI (q + 1)) else nI (j + 1)) = nI p' → (if v = 0 then (if S.1 k 1 (q + 1) = 58 then nI (60 * k + (q + 3)) else nI (60 * k + (q + 1))) else nI (60 * k + (j + 1))) = nI (60 * k + p') → ∃ M', f_GM_step M = some M' ∧ SPo S M (f_MA_step S) M' ∧ (((f_MA_step S).2 9 3 = 0 ∧ M' 0 20 = 0) ∨ ∃ L k p l, Top (f_MA_step S) M' nn L k p l ∧ (f_MA_step S).1 k 1 p ≠ 125) := by
        intro p' hp' y1 y2
        refine fin_s (L := L) (k := k) (p := p') (l := l) (S1 := stR (stR S 7 1 (nI j)) 11 l.length (nI p')) (M1 := stM M2 0 21 (nI (60 * k + p'))) hK ?_ ?_ ?_ (by rw [eG, y2])
        · refine ⟨rfl, fun c hc => by rw [stR_o (by omega), stR_o (by omega)], fun c h1 h2 => by rw [stM_o (by omega), b9.mk c h1 (by omega)], by rw [stM_s, upd_o (by decide), b9.2 3 (by decide) (by decide)], fun i hi => ?_, fun i hi => ?_, ?_, c, c, hc30, h94, ?_, by omega⟩
          · rw [stM_o (by decide), b9.mk 12 (by omega) (by omega), stR_o (by decide), stR_o (by decide)]; exact hV i hi
          · rw [stM_o (by decide), b9.mk 13 (by omega) (by omega), stR_o (by decide), stR_o (by decide)]; exact hO i hi
          · rw [stM_s, upd_o (by decide), b9.2 19 (by decide) (by decide), stR_o (by decide), stR_o (by decide)]; exact hcn
          · rw [stR_o (by decide), stR_o (by decide)]; exact h94
        · exact Top_mv (Top_k (S' := stR S 7 1 (nI j)) (M' := M2) hT (ck_7 S _) (by rw [stR_o (by decide)]) (by rw [stR_o (by decide)]) (by rw [stR_o (by decide)]) (b9.mk 14 (by omega) (by omega)) (b9.2 21 (by decide) (by decide)) (b9.2 23 (by decide) (by decide)) (b9.2 20 (by decide) (by decide))) hp'
        · rw [eC, if_pos ((gs_L _).1.mpr nL), eP, y1]
      by_cases u : v = 0
      · rcases q6 with ⟨y, y2⟩ | ⟨y, _, _, y2⟩
        · exact go (q + 1) y2 (by rw [if_pos u, if_neg y]) (by rw [if_pos u, if_neg y])
        · exact go (q + 3) y2 (by rw [if_pos u, if_pos y]) (by rw [if_pos u, if_pos y])
      · exact go (j + 1) b10 (by rw [if_neg u]) (by rw [if_neg u])
