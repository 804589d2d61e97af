theorem cnt_le (m : Int32) : ∀ y, cntTo m y ≤ y
  | 0 => Nat.le_refl _
  | y + 1 => by
    have := cnt_le m y
    rw [cntTo]
    cases bt m y
    · simp; omega
    · simp; omega
theorem bc_0 : f_JI_bitCount 0 = 0 := by rw [cnt_s]; decide +kernel
theorem bc_pos (m : Int32) : ¬ f_JI_bitCount m < 0 := by
  rw [cnt_s]
  have := cnt_le m 32
  exact nI_pos (by omega)
theorem b4096 (j : Nat) : bt 4096 j = decide (12 = j) := by
  rw [show (4096 : Int32) = (1 : Int32) <<< (nI 12 &&& 31) by decide +kernel]
  exact bt_1 (by decide) j
/-- the reference's link, once all is compiled and unlinked -/
noncomputable def f_LK (S30 : MS) : Option (Int32 × MS) :=
  bd2 (f_GM_gather S30) fun x34 S34 =>
  if x34 = 0 then
    some ((-3 : Int32), S34)
  else
    q_GM_link_52 (fz 2000) S34 0 0 0 0 fun (S95 : MS) (y95_1 : Int32) (y95_3 : Int32) (y95_2 : Int32) (_ : Int32) =>
      gd (ix (12 : Int32) 26) <|
      lt (S95 10 (12 : Int32).toNatClampNeg) fun x101 =>
      jn (fun (T113 : MS) =>
        some ((-4 : Int32), T113)) fun k113 =>
      if x101 < 0 then
        k113 S95
      else
        lt (y95_1 ^^^ (-1 : Int32)) fun x108 =>
        lt (y95_2 &&& x108) fun x109 =>
        if x109 = 0 then
          q_GM_link_119 (fz 2000) S95 y95_3 y95_2 y95_1 0 fun (S197 : MS) (_ : Int32) =>
            q_GM_link_200 (fz 2000) S197 y95_3 y95_2 y95_1 0 fun (S232 : MS) (_ : Int32) =>
              lt (stM S232 0 3 1) fun S234 =>
              some (y95_3, S234)
        else
          k113 S95
def LMx (M M' : MS) : Prop := (∀ c, 0 < c → c < 4 ∨ 11 < c → M' c = M c) ∧ (∀ i, i ≠ 3 → M' 0 i = M 0 i)
theorem lnk_s {S : CS} {M : MS} {nn : Nat → Nat} (hn : ∀ k, k < 3 → S.1 k 0 6 = nI (nn k)) (hC : CO S M (fun k => S.1 k 1) nn) :
    ∃ M', f_LK M = some ((f_PR_join S).1, M') ∧ CF S (f_PR_join S).2 ∧ LMx M M' ∧ (((f_PR_join S).1 < 0 ∧ M' 0 3 = M 0 3) ∨ (¬ (f_PR_join S).1 < 0 ∧ M' 0 3 = 1 ∧ LKd (f_PR_join S).2 M' nn)) := by
  -- what both begin with
  obtain ⟨g1, g2, g3⟩ := fgt_q (fz 27) 0 (stR S 4 2 0) (by omega) (by rw [fz_eq]; omega)
  rw [nI_0] at g1 g2 g3
  obtain ⟨M1, m1, m2, m3⟩ := gini_q (K := fun S28 (_ : Int32) => q_GM_gather_30 (fz 2000) S28 0 fun S (_ : Int32) => some ((1 : Int32), S)) (fz 2000) 0 M (by omega) (by rw [fz_eq]; omega)
  rw [nI_0] at m1
  have e1 : f_PR_join S = q_PR_join_6 (fz 4) (q_PR_forget_7 (fz 27) (stR S 4 2 0) 0) (nI 0) := rfl
  have e2 : f_GM_gather M = q_GM_gather_30 (fz 2000) M1 (nI 0) fun S (_ : Int32) => some ((1 : Int32), S) := m1
  have cf1 : CF S (q_PR_forget_7 (fz 27) (stR S 4 2 0) 0) := (CF.rf.st (Or.inl rfl)).tr g1
  have hD0 : (q_PR_forget_7 (fz 27) (stR S 4 2 0) 0).2 4 2 = 0 := by rw [g2, stR_s, upd_s]
  have hL0 : LG (fun k => S.1 k 1) nn 0 (q_PR_forget_7 (fz 27) (stR S 4 2 0) 0) M1 := by
    refine ⟨fun j _ => by rw [hD0, bt_0], fun L hL => ⟨fun _ => ?_, fun z => by rw [hD0, bt_0] at z; exact absurd z (by decide)⟩, fun j hj => by omega⟩
    obtain ⟨x1, x2⟩ := g3 L hL
    obtain ⟨x3, x4⟩ := m3 L hL
    rw [if_pos (Nat.zero_le _)] at x1 x2 x3 x4
    exact ⟨x1, x2, x3, x4⟩
  have hC1 : CO (q_PR_forget_7 (fz 27) (stR S 4 2 0) 0) M1 (fun k => S.1 k 1) nn := fun k hk => by
    obtain ⟨x1, x2, x3, x4⟩ := hC k hk
    exact ⟨x1, x2, by rw [cf1.1]; exact x3, ⟨by rw [m2 2 (by decide) (by decide)]; exact x4.1, fun i hi => by rw [m2 1 (by decide) (by decide)]; exact x4.2 i hi⟩⟩
  rw [e1]
  generalize q_PR_forget_7 (fz 27) (stR S 4 2 0) 0 = S1 at cf1 hD0 hL0 hC1 ⊢
  have lmx : ∀ {M'}, LM M1 M' → LMx M M' := fun {M'} h => ⟨fun c h0 hc => by rw [h c (by omega), m2 c (by omega) (by omega)], fun i _ => by rw [h 0 (by omega), m2 0 (by decide) (by decide)]⟩
  rcases join_q (fz 4) (fz 2000) 0 S1 M1 (by omega) (by rw [fz_eq]; omega) (by rw [fz_eq]; omega) hC1 hL0 with ⟨x1, x2, M', x3, x4⟩ | ⟨f', S3, M3, x1, x2, x3, x4, x5⟩
  · refine ⟨M', ?_, cf1.tr x2, lmx x4, Or.inl ⟨by rw [x1]; decide, by rw [x4 0 (by omega), m2 0 (by decide) (by decide)]⟩⟩
    unfold f_LK
    rw [e2, x3, x1]
    rfl
  · have hJ : q_PR_join_6 (fz 4) S1 (nI 0) = if f_PR_lacksOne S3 = 0 then (if f_PR_hasCircle (f_PR_followChains S3) = 0 then (f_JI_bitCount ((f_PR_followChains S3).2 4 2), f_PR_followChains S3) else (-5, f_PR_followChains S3)) else (-4, S3) := by
      rw [x1, q_PR_join_6, if_pos y3]
    have cf3 : CF S S3 := cf1.tr x3
    have lm3 := lmx x4
    obtain ⟨l1, l2, l3⟩ := x5
    have hWj : ∀ j, j < 3 → WT (S.1 j 1) (nn j) := fun j hj => (hC j hj).1
    have hneg : ∀ L, L < 26 → (M3 10 L < 0 ↔ bt (S3.2 4 2) L = false) := fun L hL => by
      cases u : bt (S3.2 4 2) L with
      | false => rw [((l2 L hL).1 u).2.2.1]; exact ⟨fun _ => rfl, fun _ => by decide⟩
      | true =>
        obtain ⟨j, j1, j2, j3, j4, j5⟩ := (l2 L hL).2 u
        obtain ⟨b, _, _, _, _, _, _, b8⟩ := body_pos (hWj j j1) j1 j2
        rw [j4]
        exact ⟨fun z => absurd z b8, fun z => absurd z (by decide)⟩
    have hrow : ∀ L, L < 26 → S3.2 6 L = M3 11 L := fun L hL => by
      cases u : bt (S3.2 4 2) L with
      | false => have := (l2 L hL).1 u; rw [this.2.1, this.2.2.2]
      | true =>
        obtain ⟨j, j1, j2, j3, j4, j5, j6⟩ := (l2 L hL).2 u
        rw [j5, j6]
    have hor : orTo (S3.2 6) 26 = orTo (M3 11) 26 := orTo_c hrow
    have hlack : f_PR_lacksOne S3 = if (4096 ||| orTo (M3 11) 26) &&& (S3.2 4 2 ^^^ (-1)) = 0 then 0 else 1 := by
      have := lak_q (S := S3) (fz 27) 0 (by omega) (by rw [fz_eq]; omega)
      rw [hor, nI_0, show (4096 : Int32) ||| orTo (S3.2 6) 0 = 4096 by rw [orTo]; decide] at this
      exact this
    have hmiss : ((4096 ||| orTo (M3 11) 26) &&& (S3.2 4 2 ^^^ (-1)) = 0) ↔ (bt (S3.2 4 2) 12 = true ∧ orTo (M3 11) 26 &&& (S3.2 4 2 ^^^ (-1)) = 0) := by
      rw [bt_z, bt_z]
      constructor
      · intro h
        have h12 := h 12 (by omega)
        rw [bt_and, bt_or, b4096, bt_not _ (by omega), decide_eq_true rfl, Bool.true_or, Bool.true_and] at h12
        refine ⟨by simpa using h12, fun j hj => ?_⟩
        have := h j hj
        rw [bt_and, bt_or] at this
        rw [bt_and]
        cases u : bt (orTo (M3 11) 26) j with
        | false => rfl
        | true => rw [u, Bool.or_true] at this; exact this
      · rintro ⟨h12, h⟩ j hj
        have := h j hj
        rw [bt_and] at this
        rw [bt_and, bt_or, b4096]
        by_cases q : 12 = j
        · subst q
          rw [bt_not _ (by omega), h12]; simp
        · rw [decide_eq_false q, Bool.false_or]; exact this
    have eL : f_LK M = if M3 10 12 < 0 then some (-4, M3) else if orTo (M3 11) 26 &&& (S3.2 4 2 ^^^ (-1)) = 0 then q_GM_link_119 (fz 2000) M3 (f_JI_bitCount (S3.2 4 2)) (orTo (M3 11) 26) (S3.2 4 2) 0 (fun (S197 : MS) (_ : Int32) => q_GM_link_200 (fz 2000) S197 (f_JI_bitCount (S3.2 4 2)) (orTo (M3 11) 26) (S3.2 4 2) 0 fun (S232 : MS) (_ : Int32) => some (f_JI_bitCount (S3.2 4 2), stM S232 0 3 1)) else some (-4, M3) := by
      unfold f_LK
      rw [e2, x2]
      have := fun K => lk_52 (S := M3) hneg (K := K) (fz 2000) 0 (by omega) (by rw [fz_eq]; omega)
      simp only [show thr (S3.2 4 2) 0 = 0 from rfl, show orTo (M3 11) 0 = 0 from rfl, bc_0, nI_0, thr_26 l1] at this
      simp only [bd2, i10, if_false, this, show ix (12 : Int32) 26 = true by decide, show (12 : Int32).toNatClampNeg = 12 by decide, gdE, ↓ltE, jnE]
    rw [hJ, eL, hlack]
    by_cases c12 : bt (S3.2 4 2) 12 = true
    · have n12 : ¬ M3 10 12 < 0 := fun z => by have := (hneg 12 (by omega)).mp z; rw [c12] at this; exact absurd this (by decide)
      rw [if_neg n12]
      by_cases cz : orTo (M3 11) 26 &&& (S3.2 4 2 ^^^ (-1)) = 0
      · rw [if_pos cz, if_pos (hmiss.mpr ⟨c12, cz⟩), if_pos rfl]
        obtain ⟨d1, d2, d3, d4⟩ := fc_2 (g := S3.2 6) (fz 27) 0 S3 (by omega) (by rw [fz_eq]; omega) (fun _ _ => rfl)
        rw [nI_0] at d1 d2 d3 d4
        have d1 : CF S3 (f_PR_followChains S3) := d1
        have d2 : (f_PR_followChains S3).2 4 = S3.2 4 := d2
        have d3 : (f_PR_followChains S3).2 5 = S3.2 5 := d3
        have d4 : ∀ L, L < 26 → (f_PR_followChains S3).2 6 L = wsN (S3.2 6) 26 L := d4
        generalize f_PR_followChains S3 = S6 at d1 d2 d3 d4 ⊢
        obtain ⟨M5, e3, e4, e5, e6⟩ := lk_119 (g := S3.2 6) (a := f_JI_bitCount (S3.2 4 2)) (b := orTo (M3 11) 26) (c := S3.2 4 2) (K := fun (S197 : MS) (_ : Int32) => q_GM_link_200 (fz 2000) S197 (f_JI_bitCount (S3.2 4 2)) (orTo (M3 11) 26) (S3.2 4 2) 0 fun (S232 : MS) (_ : Int32) => some (f_JI_bitCount (S3.2 4 2), stM S232 0 3 1)) (fz 2000) 0 M3 (by omega) (by rw [fz_eq]; omega) (fun L hL j z => by rw [← hrow L hL]; exact z)
        rw [nI_0] at e3
        rw [e3]
        have hTrW : Tr (wsN (S3.2 6) 26) := fun a b c ha hb h1 h2 => ws_tr 26 b a c hb h1 h2
        have hsub := e6 _ hTrW (fun L hL j z => ws_mono (by rw [hrow L hL]; exact z) 26)
        have heq : ∀ L, L < 26 → bt (M5 11 L) L = bt (S6.2 6 L) L := fun L hL => by
          rw [d4 L hL]
          cases u : bt (wsN (S3.2 6) 26 L) L with
          | true => exact e5 L hL L u
          | false =>
            cases v : bt (M5 11 L) L with
            | false => rfl
            | true => have := hsub L hL L v; rw [u] at this; exact absurd this (by decide)
        have lm5 : LMx M M5 := ⟨fun c h0 hc => by rw [e4 c (by omega)]; exact lm3.1 c h0 hc, fun i hi => by rw [e4 0 (by decide)]; exact lm3.2 i hi⟩
        have m503 : M5 0 3 = M 0 3 := by rw [e4 0 (by decide), x4 0 (by omega), m2 0 (by decide) (by decide)]
        have hcq := hc_q (S := S6) (fz 27) 0 (by omega) (by rw [fz_eq]; omega)
        have hrq := hr_q (S := M5) (a := f_JI_bitCount (S3.2 4 2)) (b := orTo (M3 11) 26) (c := S3.2 4 2) (K := fun (S232 : MS) (_ : Int32) => some (f_JI_bitCount (S3.2 4 2), stM S232 0 3 1)) (fz 2000) 0 (by omega) (by rw [fz_eq]; omega)
        rw [nI_0] at hcq hrq
        rcases hcq with ⟨u1, u2⟩ | ⟨u1, L, u2, u3, u4⟩
        · rw [show f_PR_hasCircle S6 = 0 from u1, if_pos rfl]
          rcases hrq with ⟨v1, v2⟩ | ⟨v1, L, v2, v3, v4⟩
          · rw [v1, d2]
            refine ⟨stM M5 0 3 1, rfl, cf3.tr d1, ⟨fun c h0 hc => by rw [stM_o (by omega)]; exact lm5.1 c h0 hc, fun i hi => by rw [stM_s, upd_o hi]; exact lm5.2 i hi⟩, Or.inr ⟨bc_pos _, by rw [stM_s, upd_s], ?_⟩⟩
            have mr : ∀ c, 0 < c → c ≠ 11 → stM M5 0 3 1 c = M3 c := fun c h0 hc => by rw [stM_o (by omega), e4 c hc]
            refine ⟨fun k hk => ?_, by rw [d2]; exact c12, fun L hL hb => ?_, fun L hL => u2 L (Nat.zero_le _) hL, fun a b c ha hb h1 h2 => ?_⟩
            · obtain ⟨y1, y2, y3', y4⟩ := hC k hk
              obtain ⟨z1, z2⟩ := l3 k hk
              have cS : S6.1 = S.1 := d1.1.trans cf3.1
              show S6.1 k 0 6 = _ ∧ _
              rw [cS]
              exact ⟨hn k hk, y1, y2, y3', ⟨by rw [mr 2 (by omega) (by omega), lm3.1 2 (by omega) (by omega)]; exact y4.1, fun i hi => by rw [mr 1 (by omega) (by omega), lm3.1 1 (by omega) (by omega)]; exact y4.2 i hi⟩, ClO_eq (mr 5 (by omega) (by omega)) (mr 6 (by omega) (by omega)) (mr 7 (by omega) (by omega)) z1, StO_eq (mr 8 (by omega) (by omega)) (mr 9 (by omega) (by omega)) z2⟩
            · rw [d2] at hb
              obtain ⟨j, j1, j2, j3, j4, j5, j6⟩ := (l2 L hL).2 hb
              have cS : S6.1 = S.1 := d1.1.trans cf3.1
              refine ⟨j, j1, by rw [cS]; exact j2, by rw [d3]; exact j3, by rw [cS, mr 10 (by omega) (by omega)]; exact j4, fun L2 hL2 z => ?_⟩
              rw [cS] at z
              have z2 : bt (S3.2 6 L) L2 = true := by rw [j6]; exact z
              refine ⟨by rw [d4 L hL]; exact ws_mono z2 26, ?_⟩
              have ho : bt (orTo (M3 11) 26) L2 = true := (orTo_b _ _ _).mpr ⟨L, hL, by rw [← hrow L hL]; exact z2⟩
              have := (bt_z.mp cz) L2 (by omega)
              rw [bt_and, ho, bt_not _ (by omega), Bool.true_and] at this
              rw [d2]
              simpa using this
            · rw [d4 a ha] at h1 ⊢
              rw [d4 b hb] at h2
              exact hTrW a b c ha hb h1 h2
          · exact absurd v4 (by rw [heq L v3, u2 L (Nat.zero_le _) v3]; decide)
        · rw [show f_PR_hasCircle S6 = 1 from u1, if_neg (by decide)]
          rcases hrq with ⟨v1, v2⟩ | ⟨v1, _⟩
          · exact absurd (v2 L (Nat.zero_le _) u3) (by rw [heq L u3, u4]; decide)
          · rw [v1]
            exact ⟨M5, rfl, cf3.tr d1, lm5, Or.inl ⟨by show (-5 : Int32) < 0; decide, m503⟩⟩
      · rw [if_neg cz, if_neg (fun z => cz (hmiss.mp z).2), if_neg (by decide)]
        exact ⟨M3, rfl, cf3, lm3, Or.inl ⟨by show (-4 : Int32) < 0; decide, by rw [x4 0 (by omega), m2 0 (by decide) (by decide)]⟩⟩
    · rw [if_pos ((hneg 12 (by omega)).mpr (by simpa using c12)), if_neg (fun z => c12 (hmiss.mp z).1), if_neg (by decide)]
      exact ⟨M3, rfl, cf3, lm3, Or.inl ⟨by show (-4 : Int32) < 0; decide, by rw [x4 0 (by omega), m2 0 (by decide) (by decide)]⟩⟩
