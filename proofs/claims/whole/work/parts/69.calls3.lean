theorem s_link {N : Nat} {S : CS} {M : MS} (h : Rel N S M) : ∃ M1, f_GM_link M = some ((f_GS_link S).1, M1) ∧ Rel (N + 1) (f_GS_link S).2 M1 := by
  obtain ⟨r1, r2, r3, r4, r5, r6, r7⟩ := h.2.1
  have q0 := (r1 0 (by omega)).2.1
  have q1 := (r1 1 (by omega)).2.1
  have q2 := (r1 2 (by omega)).2.1
  have hb : ∀ k, k < 3 → S.1 k 0 9 = 0 ∨ S.1 k 0 9 = 1 := fun k hk => (h.1.1 k hk).2.2.2
  have eS : ∀ f y, y < 3 → q_GS_link_2 (f + 1) S (nI y) = if S.1 y 0 9 = 0 then (-1, S) else q_GS_link_2 f S (nI (y + 1)) := fun f y hy => by
    rw [q_GS_link_2, if_neg (n3 hy)]
    dsimp only
    unfold f_MT_isCompiled
    rw [nI_clamp (by omega), nI_1]
  have e0 : f_GS_link S = q_GS_link_2 4 S (nI 0) := by unfold f_GS_link; rw [fz_eq]; rfl
  have c0 : (0 : Int32).toNatClampNeg = 0 := by decide
  have c1 : (1 : Int32).toNatClampNeg = 1 := by decide
  have c2 : (2 : Int32).toNatClampNeg = 2 := by decide
  have x0 : ix (0 : Int32) 3 = true := by decide
  have x1 : ix (1 : Int32) 3 = true := by decide
  have x2 : ix (2 : Int32) 3 = true := by decide
  have refused : ∀ k, k < 3 → S.1 k 0 9 = 0 → f_GM_link M = some (-1, M) ∧ f_GS_link S = (-1, S) := fun k hk z => by
    rw [e0, eS 3 0 (by omega), eS 2 1 (by omega), eS 1 2 (by omega)]
    unfold f_GM_link
    simp only [↓ltE, jnE, x0, x1, x2, c0, c1, c2, gdE, q0, q1, q2]
    by_cases z0 : S.1 0 0 9 = 0
    · simp only [z0, i00, if_true, and_self]
    · by_cases z1 : S.1 1 0 9 = 0
      · simp only [if_neg z0, z1, i00, if_true, and_self]
      · have z2 : S.1 2 0 9 = 0 := by
          have : k = 0 ∨ k = 1 ∨ k = 2 := by omega
          rcases this with rfl | rfl | rfl
          · exact absurd z z0
          · exact absurd z z1
          · exact z
        simp only [if_neg z0, if_neg z1, z2, i00, if_true, and_self]
  by_cases hall : ∀ k, k < 3 → S.1 k 0 9 = 1
  · have w0 := hall 0 (by omega)
    have w1 := hall 1 (by omega)
    have w2 := hall 2 (by omega)
    have eL : f_GS_link S = if (f_PR_join (f_GS_loosen S)).1 < 0 then ((f_PR_join (f_GS_loosen S)).1, stR (f_PR_join (f_GS_loosen S)).2 0 5 0) else ((f_PR_join (f_GS_loosen S)).1, stR (f_PR_join (f_GS_loosen S)).2 0 5 1) := by
      rw [e0, eS 3 0 (by omega), eS 2 1 (by omega), eS 1 2 (by omega), w0, w1, w2, if_neg (by decide), if_neg (by decide), if_neg (by decide), q_GS_link_2, if_pos y3]
    have eM : f_GM_link M = f_LK (stM (stM M 0 3 0) 0 20 0) := by
      have eu : f_GM_unlink M = some (stM (stM M 0 3 0) 0 20 0) := rfl
      unfold f_GM_link f_LK
      simp only [↓ltE, jnE, x0, x1, x2, c0, c1, c2, gdE, q0, q1, q2, w0, w1, w2, i10, if_false, eu, bd]
    have hex : ∀ k, ∃ n, k < 3 → n ≤ 60 ∧ S.1 k 0 6 = nI n := fun k => by
      by_cases hk : k < 3
      · obtain ⟨n, a, b⟩ := len_s h.1 hk
        exact ⟨n, fun _ => ⟨a, b⟩⟩
      · exact ⟨0, fun z => absurd z hk⟩
    have hnn : ∃ nn : Nat → Nat, ∀ k, k < 3 → nn k ≤ 60 ∧ S.1 k 0 6 = nI (nn k) := ⟨fun k => Classical.choose (hex k), fun k hk => Classical.choose_spec (hex k) hk⟩
    obtain ⟨nn, hnn⟩ := hnn
    have hlo : (f_GS_loosen S).1 = S.1 := rfl
    have hlo2 : ∀ c, c ≠ 0 → c ≠ 9 → (f_GS_loosen S).2 c = S.2 c := fun c a b => by
      show (stR (stR S 0 5 0) 9 3 0).2 c = S.2 c
      rw [stR_o b, stR_o a]
    have hCO : CO (f_GS_loosen S) (stM (stM M 0 3 0) 0 20 0) (fun k => (f_GS_loosen S).1 k 1) nn := fun k hk => by
      obtain ⟨a, b⟩ := hnn k hk
      obtain ⟨y1, y2, y3'⟩ := r7 k hk (hall k hk) (nn k) a b
      have := RB_tx h.2.1 hk a b
      exact ⟨y1, y3', y2, ⟨by rw [stM_o (by decide), stM_o (by decide)]; exact this.1, fun i hi => by rw [stM_o (by decide), stM_o (by decide)]; exact this.2 i hi⟩⟩
    obtain ⟨M', b1, b2, b3, b4⟩ := lnk_s (S := f_GS_loosen S) (M := stM (stM M 0 3 0) 0 20 0) (nn := nn) (fun k hk => (hnn k hk).2) hCO
    have hic : IC (4 * (N + 1)) (f_PR_join (f_GS_loosen S)).2 := ic_jn (IC_mono (IC_md0 (IC_R h.1 0 5 0 rfl)) (by omega))
    rw [eL, eM, b1]
    have cS : (f_PR_join (f_GS_loosen S)).2.1 = S.1 := b2.1.trans hlo
    have c8 : (f_PR_join (f_GS_loosen S)).2.2 8 = S.2 8 := by rw [b2.2 8 (by decide) (by decide) (by decide), hlo2 8 (by decide) (by decide)]
    have c12 : (f_PR_join (f_GS_loosen S)).2.2 12 = S.2 12 := by rw [b2.2 12 (by decide) (by decide) (by decide), hlo2 12 (by decide) (by decide)]
    have c94 : (f_PR_join (f_GS_loosen S)).2.2 9 4 = S.2 9 4 := by
      rw [b2.2 9 (by decide) (by decide) (by decide)]
      show (stR (stR S 0 5 0) 9 3 0).2 9 4 = _
      rw [stR_s, upd_o (by decide), stR_o (by decide)]
    have c93 : (f_PR_join (f_GS_loosen S)).2.2 9 3 = 0 := by
      rw [b2.2 9 (by decide) (by decide) (by decide)]
      show (stR (stR S 0 5 0) 9 3 0).2 9 3 = _
      rw [stR_s, upd_s]
    have mm : ∀ c, 0 < c → c < 4 ∨ 11 < c → M' c = M c := fun c a b => by rw [b3.1 c a b, stM_o (by omega), stM_o (by omega)]
    have m19 : M' 0 19 = M 0 19 := by rw [b3.2 19 (by decide), stM_s, upd_o (by decide), stM_s, upd_o (by decide)]
    have m20 : M' 0 20 = 0 := by rw [b3.2 20 (by decide), stM_s, upd_s]
    have hRB : ∀ z, bl z → M' 0 3 = z → RB (stR (f_PR_join (f_GS_loosen S)).2 0 5 z) M' := fun z hz m03 => by
      refine ⟨fun k hk => ?_, fun j hj => ?_, fun j hj => ?_, ?_, ?_, ?_, ?_⟩
      · rw [mm 1 (by omega) (by omega), mm 2 (by omega) (by omega), mm 3 (by omega) (by omega), stR_1, cS]; exact r1 k hk
      · rw [mm 12 (by omega) (by omega), stR_o (by decide), c8]; exact r2 j hj
      · rw [mm 13 (by omega) (by omega), stR_o (by decide), c12]; exact r3 j hj
      · rw [m19, stR_o (by decide), c94]; exact r4
      · rw [m03, stR_s, upd_s]
      · rw [stR_s, upd_s]; exact hz
      · rw [stR_1, cS]; exact r7
    rcases b4 with ⟨d1, d2⟩ | ⟨d1, d2, d3⟩
    · rw [if_pos d1]
      have d2 : M' 0 3 = 0 := by rw [d2, stM_s, upd_o (by decide), stM_s, upd_s]
      exact ⟨M', rfl, IC_R hic 0 5 0 rfl, hRB 0 (Or.inl rfl) d2, RL_0 (by rw [stR_s, upd_s]) (by rw [stR_o (by decide)]; exact c93) m20⟩
    · rw [if_neg d1]
      refine ⟨M', rfl, IC_R hic 0 5 1 rfl, hRB 1 (Or.inr rfl) d2, fun _ => ⟨fun k hk => by rw [stR_1, cS]; exact hall k hk, nn, LKd_k d3 (CK.st (by decide) (by decide) (by decide)) (fun _ _ _ _ _ => rfl)⟩, Or.inl ⟨by rw [stR_o (by decide)]; exact c93, m20⟩⟩
  · have : ∃ k, k < 3 ∧ S.1 k 0 9 = 0 := Classical.byContradiction fun z => hall fun k hk => (hb k hk).resolve_left fun u => z ⟨k, hk, u⟩
    obtain ⟨k, hk, z⟩ := this
    obtain ⟨y1, y2⟩ := refused k hk z
    rw [y1, y2]
    exact ⟨M, rfl, Rel_up h⟩
theorem bm1 : ∀ j : Fin 26, bt (-1) j.1 = true := by decide +kernel
theorem cnt_25 {a : Int32} {L : Nat} (hL : L < 26) (h : bt a L = false) : cntTo a 26 ≤ 25 := by
  have := cnt_sub (a := a) (b := -1) (L := L) (fun j hj _ => bm1 ⟨j, hj⟩) (bm1 ⟨L, hL⟩) h 26 (Nat.le_refl _)
  rw [if_pos hL] at this
  have := cnt_le (-1) 26
  omega
theorem IC_run {c : Nat} {S S' : CS} {M' : MS} {nn : Nat → Nat} (hI : IC c S) (h1 : S'.1 = S.1) (h2 : ∀ c, c < 7 → S'.2 c = S.2 c) {c' : Nat} (h4 : S'.2 9 4 = nI c') (hc : c' < 2 ^ 30) (h9 : (S'.2 9 3 = 0 ∧ M' 0 20 = 0) ∨ ∃ L k p l, Top S' M' nn L k p l ∧ S'.1 k 1 p ≠ 125) : IC c' S' := by
  refine ⟨by rw [h1]; exact hI.1, by rw [h2 2 (by omega)]; exact hI.2.1, by rw [h2 5 (by omega)]; exact hI.2.2.1, ?_, ?_⟩
  · rcases h9 with ⟨z, _⟩ | ⟨L, k, p, l, z, _⟩
    · rw [z]; decide
    · have := z.1.2.2.2.2.1
      rw [z.2.2.2.2.1, nI_toInt (by omega)]; omega
  · rw [h4, nI_toInt (by omega)]; omega
theorem s_start {N : Nat} {S : CS} {M : MS} (h : Rel N S M) : ∃ M1, f_GM_start M = some ((f_GS_start S).1, M1) ∧ Rel (N + 1) (f_GS_start S).2 M1 := by
  obtain ⟨r1, r2, r3, r4, r5, r6, r7⟩ := h.2.1
  rcases r6 with u | u
  · have e1 : f_GS_start S = (-1, S) := by unfold f_GS_start; rw [if_pos u]
    have e2 : f_GM_start M = some (-1, M) := by
      unfold f_GM_start
      simp only [jnE, r5, u, i00, if_true]
    rw [e1, e2]
    exact ⟨M, rfl, Rel_up h⟩
  · rcases run_c h with ⟨h1, h2, h3⟩ | ⟨h1, h2, _⟩
    · obtain ⟨g1, nn, hK⟩ := h.2.2.1 u
      obtain ⟨j, j1, j2, j3, j4, j5⟩ := hK.2.2.1 12 (by omega) hK.2.1
      obtain ⟨q1, q2, q3, q4, q5, q6, q7⟩ := hK.1 j j1
      obtain ⟨b, e1, e2⟩ := ent q2 j2
      have hb60 := e2.1
      have hn60 := q2.1
      have eb : S.1 j 5 12 = nI b := by rw [(q4.2.2.2.2 12 (by omega) j2).1, e1]
      have eM : M 10 12 + 1 = nI (60 * j + (b + 2)) := by rw [j4, e1, nI_add, nI_1]; congr 1; omega
      have hck : CK S (stR (stR (stR (stR (stR S 9 4 0) 9 3 0) 10 0 (nI 12)) 11 0 (nI (b + 2))) 9 3 (nI 1)) := ((((CK.st (by decide) (by decide) (by decide)).tr (CK.st (by decide) (by decide) (by decide))).tr (CK.st (by decide) (by decide) (by decide))).tr (CK.st (by decide) (by decide) (by decide))).tr (CK.st (by decide) (by decide) (by decide))
      have hmk : MKp M (stM (stM (stM (stM M 0 19 0) 0 20 1) 0 23 1) 0 21 (nI (60 * j + (b + 2)))) := fun c h0 _ _ _ => by rw [stM_o (by omega), stM_o (by omega), stM_o (by omega), stM_o (by omega)]
      have hT : Top (stR (stR (stR (stR (stR S 9 4 0) 9 3 0) 10 0 (nI 12)) 11 0 (nI (b + 2))) 9 3 (nI 1)) (stM (stM (stM (stM M 0 19 0) 0 20 1) 0 23 1) 0 21 (nI (60 * j + (b + 2)))) nn 12 j (b + 2) [] := by
        refine ⟨FrOK_k ⟨by omega, j1, hK.2.1, j3, ?_, e2⟩ hck, ?_, ?_, ?_, ?_, ?_, ?_, trivial⟩
        · have := cnt_25 (show 12 < 26 by omega) (hK.2.2.2.1 12 (by omega))
          show cntTo (S.2 6 12) 26 + 0 ≤ 25
          omega
        · rw [stR_o (by decide), stR_o (by decide), stR_s]; exact upd_s
        · rw [stR_o (by decide), stR_s]; exact upd_s
        · rw [stM_s, upd_s]
        · rw [stR_s, upd_s]; rfl
        · rw [stM_s, upd_o (by decide), stM_s, upd_s]; rfl
        · rw [stM_s, upd_o (by decide), stM_s, upd_o (by decide), stM_s, upd_s]
      obtain ⟨M', d1, d2, d3, d4⟩ := set_s (LKd_k hK hck hmk) hT
      have eE : f_MA_enter (stR (stR S 9 4 0) 9 3 0) 12 = stR (stR (stR (stR (stR S 9 4 0) 9 3 0) 10 0 (nI 12)) 11 0 (nI (b + 2))) 9 3 (nI 1) := by
        have z93 : (stR (stR S 9 4 0) 9 3 0).2 9 3 = 0 := by rw [stR_s, upd_s]
        have z93' : (stR (stR (stR S 9 4 0) 9 3 0) 10 0 (nI 12)).2 9 3 = 0 := by rw [stR_o (by decide)]; exact z93
        show f_MA_enter (stR (stR S 9 4 0) 9 3 0) (nI 12) = _
        unfold f_MA_enter
        rw [ho_s (show 12 < 26 by omega) j1 (by rw [stR_o (by decide), stR_o (by decide)]; exact j3), if_neg (by omega)]
        dsimp only
        rw [z93, if_pos (by decide), show (0 : Int32).toNatClampNeg = 0 by decide, z93', show (0 : Int32).toNatClampNeg = 0 by decide, Nat.add_sub_cancel]
        have r5' : f_MT_firstPlaceOf (stR (stR (stR S 9 4 0) 9 3 0) 10 0 (nI 12)) j (nI 12) = nI (b + 2) := by
          unfold f_MT_firstPlaceOf
          dsimp only
          rw [isLn (show 12 < 26 by omega), if_neg (by decide), nI_clamp (by omega)]
          show S.1 j 5 12 + 2 = _
          rw [eb, nI_2]
        rw [r5', stR_o (show (9 : Nat) ≠ 11 by decide), z93']
        rfl
      have eC : f_GS_start S = (if f_MA_isGoing (f_MA_leaveEndedBlocks (stR (stR (stR (stR (stR S 9 4 0) 9 3 0) 10 0 (nI 12)) 11 0 (nI (b + 2))) 9 3 (nI 1))) = 0 then 0 else 1, f_MA_leaveEndedBlocks (stR (stR (stR (stR (stR S 9 4 0) 9 3 0) 10 0 (nI 12)) 11 0 (nI (b + 2))) 9 3 (nI 1))) := by
        unfold f_GS_start f_MA_begin
        rw [if_neg (by rw [u]; decide)]
        dsimp only
        rw [h1, if_pos rfl, eE]
        split <;> rfl
      have eG : f_GM_start M = some (if M' 0 20 = 0 then 0 else 1, M') := by
        unfold f_GM_start
        have r10 : stM (stM (stM M 0 19 0) 0 20 1) 0 23 1 10 = M 10 := by rw [stM_o (by decide), stM_o (by decide), stM_o (by decide)]
        simp only [↓ltE, jnE, r5, u, i10, if_false, h2, i00, if_true, show ix (12 : Int32) 26 = true by decide, gdE, show (12 : Int32).toNatClampNeg = 12 by decide, r10, eM, d1, bd]
        split <;> rfl
      rw [eC, eG]
      generalize f_MA_leaveEndedBlocks (stR (stR (stR (stR (stR S 9 4 0) 9 3 0) 10 0 (nI 12)) 11 0 (nI (b + 2))) 9 3 (nI 1)) = S' at d2 d4 ⊢
      have s1 : S'.1 = S.1 := d2.1
      have s2 : ∀ c, c ≠ 9 → c ≠ 10 → c ≠ 11 → S'.2 c = S.2 c := fun c a1 a2 a3 => by rw [d2.2.1 c a1 a3, stR_o a1, stR_o a3, stR_o a2, stR_o a1, stR_o a1]
      have s94 : S'.2 9 4 = nI 0 := by rw [d2.2.2 4 (by decide), stR_s, upd_o (by decide), stR_o (by decide), stR_o (by decide), stR_s, upd_o (by decide), stR_s, upd_s]; rfl
      have mk2 : ∀ c, c ≠ 0 → M' c = M c := fun c hc => by rw [d3.1 c hc, stM_o hc, stM_o hc, stM_o hc, stM_o hc]
      have m3 : M' 0 3 = M 0 3 := by rw [d3.2 3 (by decide) (by decide) (by decide), stM_s, upd_o (by decide), stM_s, upd_o (by decide), stM_s, upd_o (by decide), stM_s, upd_o (by decide)]
      have m19 : M' 0 19 = 0 := by rw [d3.2 19 (by decide) (by decide) (by decide), stM_s, upd_o (by decide), stM_s, upd_o (by decide), stM_s, upd_o (by decide), stM_s, upd_s]
      have ck2 : CK S S' := ⟨s1, s2 4 (by decide) (by decide) (by decide), s2 5 (by decide) (by decide) (by decide), s2 6 (by decide) (by decide) (by decide)⟩
      have hK2 : LKd S' M' nn := LKd_k hK ck2 (fun c a _ _ _ => mk2 c (by omega))
      have hic : IC 0 S' := IC_run (nn := nn) (M' := M') h.1 s1 (fun c hc => s2 c (by omega) (by omega) (by omega)) s94 (by omega) d4
      have hR : Rel (N + 1) S' M' := by
        refine ⟨IC_mono hic (by omega), ⟨fun k hk => ?_, fun i hi => ?_, fun i hi => ?_, ?_, ?_, ?_, ?_⟩, fun _ => ⟨by rw [s1]; exact g1, nn, hK2⟩, ?_⟩
        · rw [mk2 1 (by decide), mk2 2 (by decide), mk2 3 (by decide), s1]; exact r1 k hk
        · rw [mk2 12 (by decide), s2 8 (by decide) (by decide) (by decide)]; exact r2 i hi
        · rw [mk2 13 (by decide), s2 12 (by decide) (by decide) (by decide)]; exact r3 i hi
        · rw [m19, s94]; rfl
        · rw [m3, s2 0 (by decide) (by decide) (by decide)]; exact r5
        · rw [s2 0 (by decide) (by decide) (by decide)]; exact Or.inr u
        · rw [s1]; exact r7
        · rcases d4 with z | ⟨L, k, p, l, z1, z2⟩
          · exact Or.inl z
          · exact Or.inr ⟨by rw [s2 0 (by decide) (by decide) (by decide)]; exact u, nn, L, k, p, l, hK2, z1, z2⟩
      refine ⟨M', ?_, hR⟩
      rcases run_c hR with ⟨z1, z2, _⟩ | ⟨z1, z2, _⟩
      · rw [z1, z2]
      · rw [z1, z2]
    · have e1 : f_GS_start S = (-1, S) := by
        unfold f_GS_start
        rw [if_neg (by rw [u]; decide)]
        dsimp only
        rw [h1, if_neg (by decide)]
      have e2 : f_GM_start M = some (-1, M) := by
        unfold f_GM_start
        simp only [jnE, r5, u, h2, i10, if_false]
      rw [e1, e2]
      exact ⟨M, rfl, Rel_up h⟩
theorem going {S : CS} {M : MS} (h : RL S M) : (f_MA_isGoing S = 0 ∧ M 0 20 = 0) ∨ (f_MA_isGoing S = 1 ∧ M 0 20 = 1 ∧ S.2 0 5 = 1 ∧ ∃ nn L k p l, LKd S M nn ∧ Top S M nn L k p l ∧ S.1 k 1 p ≠ 125) := by
  unfold f_MA_isGoing
  rcases h.2 with ⟨h1, h2⟩ | ⟨h1, nn, L, k, p, l, h2, h3, h4⟩
  · exact Or.inl ⟨by rw [h1]; rfl, h2⟩
  · refine Or.inr ⟨?_, h3.2.2.2.2.2.2.1, h1, nn, L, k, p, l, h2, h3, h4⟩
    have := h3.1.2.2.2.2.1
    rw [h3.2.2.2.2.1, if_neg (nI_nle (by omega) (by omega))]
theorem one_s {c : Nat} {S : CS} {M : MS} (hI : IC c S) (hc : c < 2 ^ 29) (hB : RB S M) (hL : RL S M) (h20 : M 0 20 = 1) : ∃ M', f_GM_step M = some M' ∧ IC (c + 1) (f_MA_step S) ∧ RB (f_MA_step S) M' ∧ RL (f_MA_step S) M' := by
  rcases going hL with ⟨_, z⟩ | ⟨_, _, u, nn, L, k, p, l, hK, hT, hne⟩
  · rw [h20] at z; exact absurd z (by decide)
  · obtain ⟨r1, r2, r3, r4, r5, r6, r7⟩ := hB
    have h94 : ∃ d, d ≤ c ∧ S.2 9 4 = nI d := by
      have := hI.2.2.2.2
      refine ⟨(S.2 9 4).toInt.toNat, by omega, Int32.toInt_inj.mp ?_⟩
      rw [nI_toInt (by omega)]; omega
    obtain ⟨d, hd, h94⟩ := h94
    obtain ⟨M', b1, b2, b3⟩ := step_s hK hT hne r2 r3 r4 h94 (by omega)
    obtain ⟨g1, _, _⟩ := hL.1 u
    generalize f_MA_step S = S' at b2 b3 ⊢
    obtain ⟨p1, p2, p3, p4, p5, p6, p7, d1, d2, p11, p8, p9, p10⟩ := id b2
    have ed : d1 = d := by
      rw [h94] at p8
      exact ((nI_eq (by omega) (by omega)).mp p8).symm
    have hK2 : LKd S' M' nn := LKd_k hK b2.ck b2.mk
    have hic : ∃ e, e ≤ c + 1 ∧ S'.2 9 4 = nI e := ⟨d2, by omega, p9⟩
    obtain ⟨e, he, h9'⟩ := hic
    have hie : IC e S' := IC_run (nn := nn) (M' := M') hI p1 p2 h9' (by omega) b3
    refine ⟨M', b1, IC_mono hie he, ⟨fun j hj => ?_, p5, p6, p7, ?_, ?_, by rw [p1]; exact r7⟩, fun _ => ⟨by rw [p1]; exact g1, nn, hK2⟩, ?_⟩
    · rw [p3 1 (by omega) (by omega), p3 2 (by omega) (by omega), p3 3 (by omega) (by omega), p1]; exact r1 j hj
    · rw [p4, p2 0 (by omega)]; exact r5
    · rw [p2 0 (by omega)]; exact r6
    · rcases b3 with z | ⟨L, k, p, l, z1, z2⟩
      · exact Or.inl z
      · exact Or.inr ⟨by rw [p2 0 (by omega)]; exact u, nn, L, k, p, l, hK2, z1, z2⟩
theorem run_q {m : Nat} (hm : m ≤ 4) : ∀ (f f2 y c : Nat) (S : CS) (M : MS), y ≤ m → m < y + f → m < y + f2 → c + (m - y) < 2 ^ 29 → IC c S → RB S M → RL S M →
    ∃ M', q_GM_run_20 f2 M (nI m) (nI y) (fun S42 _ => if S42 0 20 = 0 then some (0, S42) else some (1, S42)) = some ((q_GS_run_24 f S (nI m) (nI y)).1, M') ∧ IC (c + (m - y)) (q_GS_run_24 f S (nI m) (nI y)).2 ∧ RB (q_GS_run_24 f S (nI m) (nI y)).2 M' ∧ RL (q_GS_run_24 f S (nI m) (nI y)).2 M' := by
  intro f
  induction f with
  | zero => intro f2 y c S M h1 h2; omega
  | succ f ih =>
    intro f2 y c S M hy hf hf2 hc hI hB hL
    obtain ⟨f3, rfl⟩ : ∃ f3, f2 = f3 + 1 := ⟨f2 - 1, by omega⟩
    rw [q_GM_run_20, q_GS_run_24]
    dsimp only
    by_cases q : y = m
    · subst q
      rw [if_pos (nI_le (Nat.le_refl _) (by omega)), if_pos (nI_le (Nat.le_refl _) (by omega))]
      rcases going hL with ⟨z1, z2⟩ | ⟨z1, z2, _⟩
      · rw [z1, z2, if_pos rfl, if_pos rfl]
        exact ⟨M, rfl, IC_mono hI (by omega), hB, hL⟩
      · rw [z1, z2, if_neg (by decide), if_neg (by decide)]
        exact ⟨M, rfl, IC_mono hI (by omega), hB, hL⟩
    · rw [if_neg (nI_ge (by omega) (by omega)), if_neg (nI_ge (by omega) (by omega))]
      rcases going hL with ⟨z1, z2⟩ | ⟨z1, z2, _⟩
      · rw [z1, z2, if_pos rfl, if_pos rfl]
        exact ⟨M, rfl, IC_mono hI (by omega), hB, hL⟩
      · obtain ⟨M', b1, b2, b3, b4⟩ := one_s hI (by omega) hB hL z2
        rw [z1, z2, if_neg (by decide), if_neg (by decide), b1]
        simp only [bd, ↓ltE, nI_1]
        obtain ⟨M2, d1, d2, d3, d4⟩ := ih f3 (y + 1) (c + 1) (f_MA_step S) M' (by omega) (by omega) (by omega) (by omega) b2 b3 b4
        exact ⟨M2, d1, IC_mono d2 (by omega), d3, d4⟩
theorem s_run {N : Nat} {S : CS} {M : MS} (a : Int32) (hN : N < 512) (h : Rel N S M) : ∃ M1, f_GM_run M a = some ((f_GS_run S a).1, M1) ∧ Rel (N + 1) (f_GS_run S a).2 M1 := by
  unfold f_GM_run f_GS_run
  by_cases q1 : a < 1
  · have g : f_GM_in a 1 4 = 0 := by
      rw [gm_in, if_neg]
      intro z
      have := i_lt 1 rfl q1
      have := z.1
      rw [show (1 : Int32).toInt = 1 from rfl] at this
      omega
    simp only [↓ltE, jnE, g, i00, if_true, if_pos q1]
    exact ⟨M, rfl, Rel_up h⟩
  · by_cases q2 : (4 : Int32) < a
    · have g : f_GM_in a 1 4 = 0 := by
        rw [gm_in, if_neg]
        intro z
        have q2 := q2
        rw [Int32.lt_iff_toInt_lt] at q2
        omega
      simp only [↓ltE, jnE, g, i00, if_true, if_neg q1, if_pos q2]
      exact ⟨M, rfl, Rel_up h⟩
    · have l1 := i_nlt 1 rfl q1
      have l2 : a.toInt ≤ 4 := by
        have : ¬ (4 : Int32).toInt < a.toInt := fun z => q2 (by rw [Int32.lt_iff_toInt_lt]; exact z)
        rw [show (4 : Int32).toInt = 4 from rfl] at this
        omega
      have g : f_GM_in a 1 4 = 1 := by
        rw [gm_in, if_pos]
        exact ⟨l1, l2⟩
      have ea : ∃ m, m ≤ 4 ∧ a = nI m := ⟨a.toInt.toNat, by omega, Int32.toInt_inj.mp (by rw [nI_toInt (by omega)]; omega)⟩
      obtain ⟨m, hm, rfl⟩ := ea
      rcases run_c h with ⟨z1, z2, z3⟩ | ⟨z1, z2, _⟩
      · simp only [↓ltE, jnE, g, i10, if_false, if_neg q1, if_neg q2, z1, z2, i00, if_true]
        exact ⟨M, rfl, Rel_up h⟩
      · simp only [↓ltE, jnE, g, i10, if_false, if_neg q1, if_neg q2, z1, z2]
        obtain ⟨M', b1, b2, b3, b4⟩ := run_q hm (fz 5) (fz 2000) 0 (4 * N) S M (by omega) (by rw [fz_eq]; omega) (by rw [fz_eq]; omega) (by omega) h.1 h.2.1 h.2.2
        rw [nI_0] at b1 b2 b3 b4
        exact ⟨M', b1, IC_mono b2 (by omega), b3, b4⟩
theorem Rel_0 : Rel 0 S_0 M_0 := by
  refine ⟨?_, ⟨fun k hk => ?_, fun _ _ => rfl, fun _ _ => rfl, rfl, rfl, Or.inl rfl, fun k hk _ n hn z => ?_⟩, RL_0 rfl rfl rfl⟩
  · refine ⟨fun k hk => ⟨by show 0 ≤ (0 : Int32).toInt; decide, by show (0 : Int32).toInt ≤ 60; decide, Or.inl rfl, Or.inr rfl⟩, by decide, fun j => by show hc 0 ≤ 3; decide, by decide, by decide⟩
  · refine ⟨rfl, ?_, fun _ _ => rfl⟩
    have : k = 0 ∨ k = 1 ∨ k = 2 := by omega
    rcases this with rfl | rfl | rfl <;> rfl
  · have e0 : n = 0 := ((nI_eq (a := 0) (b := n) (by omega) (by omega)).mp z).symm
    subst e0
    refine ⟨⟨by omega, r_0, rfl, rfl⟩, ⟨fun q hq => by omega, fun q hq => by omega, rfl, rfl, fun L _ hb => ?_⟩, rfl⟩
    rw [show (pT (S_0.1 k 1) 0).1 = 0 from rfl, bt_0] at hb
    exact absurd hb (by decide)
theorem sim_all : SimOK Rel := ⟨fun _ _ _ h => h.1, fun _ _ _ h => Rel_up h, fun _ _ _ a b _ h => s_sign a b h, fun _ _ _ a _ h => s_clear a h, fun _ _ _ a _ h => s_compile a h, fun _ _ _ a _ h => s_fault a h, fun _ _ _ _ h => s_link h, fun _ _ _ _ h => s_start h, fun _ _ _ a hn h => s_run a hn h, fun _ _ _ _ h => s_stop h, fun _ _ _ a b _ h => s_set a b h, fun _ _ _ a _ h => s_get a h, fun _ _ _ a _ h => s_output a h, fun _ _ _ a _ h => s_at a h, fun _ _ _ a b c _ h => s_operate a b c h, fun _ _ _ a b _ h => s_state a b h⟩
