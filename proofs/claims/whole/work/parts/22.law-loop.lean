theorem lg_cmp_same (x : Int64) : lg_cmp x x = 0 := by simp [lg_cmp]
theorem ln_ok {x3 : Int32} {j L : Nat} (e : x3 = nI (4 * j)) (hj : j ≤ 512) (hL : L ≤ 2048) (h : ¬ Int32.ofNat L - 4 < x3) : 4 * j + 3 < L := by
  have hl : (Int32.ofNat L).toInt = (L : Int) := nI_toInt (n := L) (by omega)
  rw [Int32.lt_iff_toInt_lt, i_sub 4 rfl (by omega) (by omega), hl, e, nI_toInt (by omega)] at h
  omega
set_option maxHeartbeats 8000000 in
set_option maxRecDepth 100000 in
theorem law_loop {p : Program} {e : Env} {s : State} {m : MethodId} {below : List Frame} {meth : Method} {c : Code} (l : Launch) {b L : Nat} {xs : Nat → Int32} (hL : L ≤ 2048) (C0 : lw_At p s m meth c b L xs) (D : va_G) (G : GP) (G2 : MP) (hK : va_K D vwCl (tyC G) s) (hK2 : va_K D vwCl (tyM G2) s) (hX : dj G G2) (Rel : Nat → CS → MS → Prop) (hsim : SimOK Rel) : ∀ (n j : Nat) (x3 : Int32) (S : CS) (M : MS) (H : Heap) (locs : List Loc) (ls : Array Slot), x3 = nI (4 * j) → j ≤ 512 → j + n = 513 → Rel j S M → va_P D vwCl (wC G S) H → va_P D vwCl (wM G2 M) H → va_D (fun q : Nat => s.heap.size ≤ q) (wC G S) → va_D (fun q : Nat => s.heap.size ≤ q) (wM G2 M) → va_S (fun q : Nat => s.heap.size ≤ q) s.heap H locs → lv_has ls 4 [(3, .int x3), (2, .ref (mA G2 0)), (1, .ref (aA G 0)), (0, .ref b)] → W p l e room_1 s m #[Value.ref b] below meth c H locs 53 2393 (lw_Z below #[Value.ref b] s) (F0 m 18 ls []) := by
  obtain ⟨hx, hb, hr, hml, hown, hts0, hXs, hbl, hlocks, hgv⟩ := id C0
  have hts := wsL_of hts0
  have hN := nw_start hts0
  have hA : ∀ q : Nat, s.heap.size ≤ q → (fun q : Nat => s.heap.size ≤ q) q := fun _ h => h
  have hbA : ¬ (fun q : Nat => s.heap.size ≤ q) b := Nat.not_le.mpr hbl
  obtain ⟨hIC, hidle, h_sign, h_clear, h_compile, h_fault, h_link, h_start, h_run, h_stop, h_set, h_get, h_output, h_at, h_operate, h_state⟩ := hsim
  intro n
  induction n with
  | zero => intro j x3 S M H locs ls e1 e2 e3; omega
  | succ n ih =>
    intro j x3 S M H locs ls ex3 hj hjn hR hP hP2 hD hD2 hS hl
    refine lv_iload_n hx hb d_L_law_18 rfl (lv_at hl 0 rfl) ?_
    refine lv_aload_n hx hb d_L_law_19 rfl (lv_at hl 3 rfl) ?_
    refine va_slen hx hb hXs hbl hbA hS d_L_law_20 ?_
    refine lv_iconst (v := 4) hx hb d_L_law_21 (by decide) ?_
    refine lv_isub hx hb d_L_law_22 ?_
    refine lv_icmp_gt (tgt := 455) hx hb d_L_law_23 (by decide) (fun c_23 => ?_) (fun c_23 => ?_)
    · refine lv_iconst (v := 1) hx hb d_L_law_455 (by decide) ?_
      refine va_forget hS.2.2 ?_
      refine W.widen (k := 600000) (n := 7302250) (by omega) (by omega) ?_
      exact lw_ret hx hb hr hlocks d_L_law_456
    have h4 : 4 * j + 3 < L := ln_ok ex3 hj hL c_23
    have hj5 : j < 512 := by omega
    have hI := hIC j S M hR
    refine lv_aload_n hx hb d_L_law_26 rfl (lv_at hl 3 rfl) ?_
    refine lv_iload_n hx hb d_L_law_27 rfl (lv_at hl 0 rfl) ?_
    refine va_sld hx hb hXs hbl hbA hS (by rw [ex3]; exact vp_in_nI (by omega) (by omega)) d_L_law_28 ?_
    refine lv_bipush (v := 15) hx hb d_L_law_29 (by decide) ?_
    refine lv_iand hx hb d_L_law_31 ?_
    refine lv_topi (fun op eop => ?_)
    have again : ∀ (S1 : CS) (M1 : MS) (H : Heap) (locs : List Loc) (ls : Array Slot), Rel (j + 1) S1 M1 → va_P D vwCl (wC G S1) H → va_P D vwCl (wM G2 M1) H → va_D (fun q : Nat => s.heap.size ≤ q) (wC G S1) → va_D (fun q : Nat => s.heap.size ≤ q) (wM G2 M1) → va_S (fun q : Nat => s.heap.size ≤ q) s.heap H locs → lv_has ls 4 [(3, .int x3), (2, .ref (mA G2 0)), (1, .ref (aA G 0)), (0, .ref b)] → W p l e room_1 s m #[Value.ref b] below meth c H locs 53 2393 (lw_Z below #[Value.ref b] s) (F0 m 449 ls []) := by
      intro S1 M1 H locs ls hR hP hP2 hD hD2 hS hl
      obtain ⟨x4, ex4⟩ : ∃ y : Int32, y = x3 + 4 := ⟨_, rfl⟩
      refine lv_iinc (v := x4) (lv' := [(3, .int x4), (2, .ref (mA G2 0)), (1, .ref (aA G 0)), (0, .ref b)]) hx hb d_L_law_449 hl (k := 0) rfl (by rw [ex4]; rfl) (by decide) rfl (fun ls hl => ?_)
      refine lv_goto (tgt := 18) hx hb d_L_law_452 (by decide) ?_
      exact ih (j + 1) x4 S1 M1 _ _ ls (by rw [ex4, ex3]; exact nI_add (4 * j) 4) (by omega) (by omega) hR hP hP2 hD hD2 hS hl
    by_cases c_32_0 : op = 0
    · refine lv_tableIn (tgt := 104) hx hb d_L_law_32 (by rw [c_32_0]; decide) (by rw [c_32_0]; decide) (by rw [c_32_0]; first | done | rfl) (by decide) ?_
      refine lv_aload_n hx hb d_L_law_104 rfl (lv_at hl 2 rfl) ?_
      refine lv_aload_n hx hb d_L_law_105 rfl (lv_at hl 3 rfl) ?_
      refine lv_iload_n hx hb d_L_law_106 rfl (lv_at hl 0 rfl) ?_
      refine lv_iconst (v := 1) hx hb d_L_law_107 (by decide) ?_
      refine lv_iadd hx hb d_L_law_108 ?_
      refine va_sld hx hb hXs hbl hbA hS (by rw [ex3]; exact li (k := 1) rfl (by omega) hL) d_L_law_109 ?_
      refine lv_aload_n hx hb d_L_law_110 rfl (lv_at hl 3 rfl) ?_
      refine lv_iload_n hx hb d_L_law_111 rfl (lv_at hl 0 rfl) ?_
      refine lv_iconst (v := 2) hx hb d_L_law_112 (by decide) ?_
      refine lv_iadd hx hb d_L_law_113 ?_
      refine va_sld hx hb hXs hbl hbA hS (by rw [ex3]; exact li (k := 2) rfl (by omega) hL) d_L_law_114 ?_
      refine lq_i (va_runV (As := [.int (xs (x3 + 1).toNatClampNeg), .int (xs (x3 + 2).toNatClampNeg)]) (rest := []) ⟨hx, hb, hml, hown, hts⟩ (c_GS_sign l D G S _ (xs (x3 + 1).toNatClampNeg) (xs (x3 + 2).toNatClampNeg) (4 * j) hI) (cwV 2 hts (gV kw112 kw113 kw114 kw1 kw115) rfl rfl rfl (by decide +kernel) ⟨by show (2 : Nat) + 1 ≤ 2048; omega, by show 8 + (3 + 11) + 40 ≤ 84000; omega⟩) ⟨blindC, va_recv (ci := 0) (q0 := 0) hK hP rfl (w_0 G S), fun U hU hW => ⟨rfl, cPre_of hP hK hD hN hU hW⟩⟩ rfl rfl hl.1 rfl (lv_room (Nat.le_of_ble_eq_true rfl)) d_L_law_115 ⟨by show 53 + 0 ≤ 600000; omega, by show 2393 + 0 ≤ 7302250; omega⟩) hX hP2 hD hS hA (fun r S1 H locs hw hP hD hP2 hS => ?_)
      have er : r = (f_GS_sign S (xs (x3 + 1).toNatClampNeg) (xs (x3 + 2).toNatClampNeg)).1 := congrArg Prod.fst hw.1
      have eS : S1 = (f_GS_sign S (xs (x3 + 1).toNatClampNeg) (xs (x3 + 2).toNatClampNeg)).2 := congrArg Prod.snd hw.1
      obtain ⟨M1, hM1, hR1⟩ := h_sign j S M (xs (x3 + 1).toNatClampNeg) (xs (x3 + 2).toNatClampNeg) hj5 hR
      rw [← eS] at hR1
      rw [← er] at hM1
      refine lv_aload_n hx hb d_L_law_118 rfl (lv_at hl 1 rfl) ?_
      refine lv_aload_n hx hb d_L_law_119 rfl (lv_at hl 3 rfl) ?_
      refine lv_iload_n hx hb d_L_law_120 rfl (lv_at hl 0 rfl) ?_
      refine lv_iconst (v := 1) hx hb d_L_law_121 (by decide) ?_
      refine lv_iadd hx hb d_L_law_122 ?_
      refine va_sld hx hb hXs hbl hbA hS (by rw [ex3]; exact li (k := 1) rfl (by omega) hL) d_L_law_123 ?_
      refine lv_aload_n hx hb d_L_law_124 rfl (lv_at hl 3 rfl) ?_
      refine lv_iload_n hx hb d_L_law_125 rfl (lv_at hl 0 rfl) ?_
      refine lv_iconst (v := 2) hx hb d_L_law_126 (by decide) ?_
      refine lv_iadd hx hb d_L_law_127 ?_
      refine va_sld hx hb hXs hbl hbA hS (by rw [ex3]; exact li (k := 2) rfl (by omega) hL) d_L_law_128 ?_
      refine mq_i (va_runV (As := [.int (xs (x3 + 1).toNatClampNeg), .int (xs (x3 + 2).toNatClampNeg)]) (rest := [.int r]) ⟨hx, hb, hml, hown, hts⟩ (c_GM_sign l D G2 M _ (xs (x3 + 1).toNatClampNeg) (xs (x3 + 2).toNatClampNeg) (r, M1) hM1) (cwV 2 hts (gV kw506 kw507 kw508 kw7 kw509) rfl rfl rfl (by decide +kernel) ⟨by show (1 : Nat) + 1 ≤ 2048; omega, by show 8 + (3 + 11) + 22 ≤ 84000; omega⟩) ⟨blindM, va_recv (ci := 6) (q0 := 0) hK2 hP2 rfl (m_0 G2 M), fun U hU hW => ⟨rfl, mPre_of hP2 hK2 hD2 hU hW⟩⟩ rfl rfl hl.1 rfl (lv_room (Nat.le_of_ble_eq_true rfl)) d_L_law_129 ⟨by show 53 + 0 ≤ 600000; omega, by show 2393 + 0 ≤ 7302250; omega⟩) hX hP hD2 hS hA (fun r2 M2 H locs hw hP2 hD2 hP hS => ?_)
      obtain ⟨h1, h2⟩ := Prod.mk.inj hw
      subst h1
      subst h2
      refine lv_icmp_eq (tgt := 449) hx hb d_L_law_132 (by decide) (fun _ => ?_) (fun c9 => absurd rfl c9)
      exact again S1 M2 _ _ ls hR1 hP hP2 hD hD2 hS hl
    by_cases c_32_1 : op = 1
    · refine lv_tableIn (tgt := 137) hx hb d_L_law_32 (by rw [c_32_1]; decide) (by rw [c_32_1]; decide) (by rw [c_32_1]; first | done | rfl) (by decide) ?_
      refine lv_aload_n hx hb d_L_law_137 rfl (lv_at hl 2 rfl) ?_
      refine lv_aload_n hx hb d_L_law_138 rfl (lv_at hl 3 rfl) ?_
      refine lv_iload_n hx hb d_L_law_139 rfl (lv_at hl 0 rfl) ?_
      refine lv_iconst (v := 1) hx hb d_L_law_140 (by decide) ?_
      refine lv_iadd hx hb d_L_law_141 ?_
      refine va_sld hx hb hXs hbl hbA hS (by rw [ex3]; exact li (k := 1) rfl (by omega) hL) d_L_law_142 ?_
      refine lq_i (va_runV (As := [.int (xs (x3 + 1).toNatClampNeg)]) (rest := []) ⟨hx, hb, hml, hown, hts⟩ (c_GS_clear l D G S _ (xs (x3 + 1).toNatClampNeg) (4 * j) hI) (cwV 1 hts (gV kw134 kw135 kw136 kw1 kw137) rfl rfl rfl (by decide +kernel) ⟨by show (2 : Nat) + 1 ≤ 2048; omega, by show 8 + (2 + 11) + 40 ≤ 84000; omega⟩) ⟨blindC, va_recv (ci := 0) (q0 := 0) hK hP rfl (w_0 G S), fun U hU hW => ⟨rfl, cPre_of hP hK hD hN hU hW⟩⟩ rfl rfl hl.1 rfl (lv_room (Nat.le_of_ble_eq_true rfl)) d_L_law_143 ⟨by show 53 + 0 ≤ 600000; omega, by show 2393 + 0 ≤ 7302250; omega⟩) hX hP2 hD hS hA (fun r S1 H locs hw hP hD hP2 hS => ?_)
      have er : r = (f_GS_clear S (xs (x3 + 1).toNatClampNeg)).1 := congrArg Prod.fst hw.1
      have eS : S1 = (f_GS_clear S (xs (x3 + 1).toNatClampNeg)).2 := congrArg Prod.snd hw.1
      obtain ⟨M1, hM1, hR1⟩ := h_clear j S M (xs (x3 + 1).toNatClampNeg) hj5 hR
      rw [← eS] at hR1
      rw [← er] at hM1
      refine lv_aload_n hx hb d_L_law_146 rfl (lv_at hl 1 rfl) ?_
      refine lv_aload_n hx hb d_L_law_147 rfl (lv_at hl 3 rfl) ?_
      refine lv_iload_n hx hb d_L_law_148 rfl (lv_at hl 0 rfl) ?_
      refine lv_iconst (v := 1) hx hb d_L_law_149 (by decide) ?_
      refine lv_iadd hx hb d_L_law_150 ?_
      refine va_sld hx hb hXs hbl hbA hS (by rw [ex3]; exact li (k := 1) rfl (by omega) hL) d_L_law_151 ?_
      refine mq_i (va_runV (As := [.int (xs (x3 + 1).toNatClampNeg)]) (rest := [.int r]) ⟨hx, hb, hml, hown, hts⟩ (c_GM_clear l D G2 M _ (xs (x3 + 1).toNatClampNeg) (r, M1) hM1) (cwV 1 hts (gV kw516 kw517 kw518 kw7 kw519) rfl rfl rfl (by decide +kernel) ⟨by show (1 : Nat) + 1 ≤ 2048; omega, by show 8 + (2 + 11) + 22 ≤ 84000; omega⟩) ⟨blindM, va_recv (ci := 6) (q0 := 0) hK2 hP2 rfl (m_0 G2 M), fun U hU hW => ⟨rfl, mPre_of hP2 hK2 hD2 hU hW⟩⟩ rfl rfl hl.1 rfl (lv_room (Nat.le_of_ble_eq_true rfl)) d_L_law_152 ⟨by show 53 + 0 ≤ 600000; omega, by show 2393 + 0 ≤ 7302250; omega⟩) hX hP hD2 hS hA (fun r2 M2 H locs hw hP2 hD2 hP hS => ?_)
      obtain ⟨h1, h2⟩ := Prod.mk.inj hw
      subst h1
      subst h2
      refine lv_icmp_eq (tgt := 449) hx hb d_L_law_155 (by decide) (fun _ => ?_) (fun c9 => absurd rfl c9)
      exact again S1 M2 _ _ ls hR1 hP hP2 hD hD2 hS hl
    by_cases c_32_2 : op = 2
    · refine lv_tableIn (tgt := 160) hx hb d_L_law_32 (by rw [c_32_2]; decide) (by rw [c_32_2]; decide) (by rw [c_32_2]; first | done | rfl) (by decide) ?_
      refine lv_aload_n hx hb d_L_law_160 rfl (lv_at hl 2 rfl) ?_
      refine lv_aload_n hx hb d_L_law_161 rfl (lv_at hl 3 rfl) ?_
      refine lv_iload_n hx hb d_L_law_162 rfl (lv_at hl 0 rfl) ?_
      refine lv_iconst (v := 1) hx hb d_L_law_163 (by decide) ?_
      refine lv_iadd hx hb d_L_law_164 ?_
      refine va_sld hx hb hXs hbl hbA hS (by rw [ex3]; exact li (k := 1) rfl (by omega) hL) d_L_law_165 ?_
      refine lq_i (va_runV (As := [.int (xs (x3 + 1).toNatClampNeg)]) (rest := []) ⟨hx, hb, hml, hown, hts⟩ (c_GS_compile l D G S _ (xs (x3 + 1).toNatClampNeg) (4 * j) hI) (cwV 1 hts (gV kw146 kw147 kw148 kw1 kw149) rfl rfl rfl (by decide +kernel) ⟨by show (6 : Nat) + 1 ≤ 2048; omega, by show 8 + (4 + 11) + 137 ≤ 84000; omega⟩) ⟨blindC, va_recv (ci := 0) (q0 := 0) hK hP rfl (w_0 G S), fun U hU hW => ⟨rfl, cPre_of hP hK hD hN hU hW⟩⟩ rfl rfl hl.1 rfl (lv_room (Nat.le_of_ble_eq_true rfl)) d_L_law_166 ⟨by show 53 + 0 ≤ 600000; omega, by show 2393 + 0 ≤ 7302250; omega⟩) hX hP2 hD hS hA (fun r S1 H locs hw hP hD hP2 hS => ?_)
      have er : r = (f_GS_compile S (xs (x3 + 1).toNatClampNeg)).1 := congrArg Prod.fst hw.1
      have eS : S1 = (f_GS_compile S (xs (x3 + 1).toNatClampNeg)).2 := congrArg Prod.snd hw.1
      obtain ⟨M1, hM1, hR1⟩ := h_compile j S M (xs (x3 + 1).toNatClampNeg) hj5 hR
      rw [← eS] at hR1
      rw [← er] at hM1
      refine lv_aload_n hx hb d_L_law_169 rfl (lv_at hl 1 rfl) ?_
      refine lv_aload_n hx hb d_L_law_170 rfl (lv_at hl 3 rfl) ?_
      refine lv_iload_n hx hb d_L_law_171 rfl (lv_at hl 0 rfl) ?_
      refine lv_iconst (v := 1) hx hb d_L_law_172 (by decide) ?_
      refine lv_iadd hx hb d_L_law_173 ?_
      refine va_sld hx hb hXs hbl hbA hS (by rw [ex3]; exact li (k := 1) rfl (by omega) hL) d_L_law_174 ?_
      refine mq_i (va_runV (As := [.int (xs (x3 + 1).toNatClampNeg)]) (rest := [.int r]) ⟨hx, hb, hml, hown, hts⟩ (c_GM_compile l D G2 M _ (xs (x3 + 1).toNatClampNeg) (r, M1) hM1) (cwV 1 hts (gV kw551 kw552 kw553 kw7 kw554) rfl rfl rfl (by decide +kernel) ⟨by show (5 : Nat) + 1 ≤ 2048; omega, by show 8 + (2 + 11) + 108 ≤ 84000; omega⟩) ⟨blindM, va_recv (ci := 6) (q0 := 0) hK2 hP2 rfl (m_0 G2 M), fun U hU hW => ⟨rfl, mPre_of hP2 hK2 hD2 hU hW⟩⟩ rfl rfl hl.1 rfl (lv_room (Nat.le_of_ble_eq_true rfl)) d_L_law_175 ⟨by show 53 + 0 ≤ 600000; omega, by show 2393 + 0 ≤ 7302250; omega⟩) hX hP hD2 hS hA (fun r2 M2 H locs hw hP2 hD2 hP hS => ?_)
      obtain ⟨h1, h2⟩ := Prod.mk.inj hw
      subst h1
      subst h2
      refine lv_icmp_eq (tgt := 449) hx hb d_L_law_178 (by decide) (fun _ => ?_) (fun c9 => absurd rfl c9)
      exact again S1 M2 _ _ ls hR1 hP hP2 hD hD2 hS hl
    by_cases c_32_3 : op = 3
    · refine lv_tableIn (tgt := 183) hx hb d_L_law_32 (by rw [c_32_3]; decide) (by rw [c_32_3]; decide) (by rw [c_32_3]; first | done | rfl) (by decide) ?_
      refine lv_aload_n hx hb d_L_law_183 rfl (lv_at hl 2 rfl) ?_
      refine lv_aload_n hx hb d_L_law_184 rfl (lv_at hl 3 rfl) ?_
      refine lv_iload_n hx hb d_L_law_185 rfl (lv_at hl 0 rfl) ?_
      refine lv_iconst (v := 1) hx hb d_L_law_186 (by decide) ?_
      refine lv_iadd hx hb d_L_law_187 ?_
      refine va_sld hx hb hXs hbl hbA hS (by rw [ex3]; exact li (k := 1) rfl (by omega) hL) d_L_law_188 ?_
      refine lq_i (va_runV (As := [.int (xs (x3 + 1).toNatClampNeg)]) (rest := []) ⟨hx, hb, hml, hown, hts⟩ (c_GS_fault l D G S _ (xs (x3 + 1).toNatClampNeg) (4 * j) hI) (cwV 1 hts (gV kw250 kw251 kw252 kw1 kw253) rfl rfl rfl (by decide +kernel) ⟨by show (6 : Nat) + 1 ≤ 2048; omega, by show 8 + (2 + 11) + 137 ≤ 84000; omega⟩) ⟨blindC, va_recv (ci := 0) (q0 := 0) hK hP rfl (w_0 G S), fun U hU hW => ⟨rfl, cPre_of hP hK hD hN hU hW⟩⟩ rfl rfl hl.1 rfl (lv_room (Nat.le_of_ble_eq_true rfl)) d_L_law_189 ⟨by show 53 + 0 ≤ 600000; omega, by show 2393 + 0 ≤ 7302250; omega⟩) hX hP2 hD hS hA (fun r S1 H locs hw hP hD hP2 hS => ?_)
      have er : r = (f_GS_fault S (xs (x3 + 1).toNatClampNeg)).1 := congrArg Prod.fst hw.1
      have eS : S1 = (f_GS_fault S (xs (x3 + 1).toNatClampNeg)).2 := congrArg Prod.snd hw.1
      obtain ⟨M1, hM1, hR1⟩ := h_fault j S M (xs (x3 + 1).toNatClampNeg) hj5 hR
      rw [← eS] at hR1
      rw [← er] at hM1
      refine lv_aload_n hx hb d_L_law_192 rfl (lv_at hl 1 rfl) ?_
      refine lv_aload_n hx hb d_L_law_193 rfl (lv_at hl 3 rfl) ?_
      refine lv_iload_n hx hb d_L_law_194 rfl (lv_at hl 0 rfl) ?_
      refine lv_iconst (v := 1) hx hb d_L_law_195 (by decide) ?_
      refine lv_iadd hx hb d_L_law_196 ?_
      refine va_sld hx hb hXs hbl hbA hS (by rw [ex3]; exact li (k := 1) rfl (by omega) hL) d_L_law_197 ?_
      refine mq_i (va_runV (As := [.int (xs (x3 + 1).toNatClampNeg)]) (rest := [.int r]) ⟨hx, hb, hml, hown, hts⟩ (c_GM_fault l D G2 M _ (xs (x3 + 1).toNatClampNeg) (r, M1) hM1) (cwV 1 hts (gV kw520 kw521 kw522 kw7 kw523) rfl rfl rfl (by decide +kernel) ⟨by show (4 : Nat) + 1 ≤ 2048; omega, by show 8 + (3 + 11) + 86 ≤ 84000; omega⟩) ⟨blindM, va_recv (ci := 6) (q0 := 0) hK2 hP2 rfl (m_0 G2 M), fun U hU hW => ⟨rfl, mPre_of hP2 hK2 hD2 hU hW⟩⟩ rfl rfl hl.1 rfl (lv_room (Nat.le_of_ble_eq_true rfl)) d_L_law_198 ⟨by show 53 + 0 ≤ 600000; omega, by show 2393 + 0 ≤ 7302250; omega⟩) hX hP hD2 hS hA (fun r2 M2 H locs hw hP2 hD2 hP hS => ?_)
      obtain ⟨h1, h2⟩ := Prod.mk.inj hw
      subst h1
      subst h2
      refine lv_icmp_eq (tgt := 449) hx hb d_L_law_201 (by decide) (fun _ => ?_) (fun c9 => absurd rfl c9)
      exact again S1 M2 _ _ ls hR1 hP hP2 hD hD2 hS hl
    by_cases c_32_4 : op = 4
    · refine lv_tableIn (tgt := 206) hx hb d_L_law_32 (by rw [c_32_4]; decide) (by rw [c_32_4]; decide) (by rw [c_32_4]; first | done | rfl) (by decide) ?_
      refine lv_aload_n hx hb d_L_law_206 rfl (lv_at hl 2 rfl) ?_
      refine lq_i (va_runV (As := []) (rest := []) ⟨hx, hb, hml, hown, hts⟩ (c_GS_link l D G S _  (4 * j) hI) (cwV 0 hts (gV kw254 kw255 kw256 kw1 kw257) rfl rfl rfl (by decide +kernel) ⟨by show (4 : Nat) + 1 ≤ 2048; omega, by show 8 + (2 + 11) + 85 ≤ 84000; omega⟩) ⟨blindC, va_recv (ci := 0) (q0 := 0) hK hP rfl (w_0 G S), fun U hU hW => ⟨rfl, cPre_of hP hK hD hN hU hW⟩⟩ rfl rfl hl.1 rfl (lv_room (Nat.le_of_ble_eq_true rfl)) d_L_law_207 ⟨by show 53 + 0 ≤ 600000; omega, by show 2393 + 0 ≤ 7302250; omega⟩) hX hP2 hD hS hA (fun r S1 H locs hw hP hD hP2 hS => ?_)
      have er : r = (f_GS_link S ).1 := congrArg Prod.fst hw.1
      have eS : S1 = (f_GS_link S ).2 := congrArg Prod.snd hw.1
      obtain ⟨M1, hM1, hR1⟩ := h_link j S M  hj5 hR
      rw [← eS] at hR1
      rw [← er] at hM1
      refine lv_aload_n hx hb d_L_law_210 rfl (lv_at hl 1 rfl) ?_
      refine mq_i (va_runV (As := []) (rest := [.int r]) ⟨hx, hb, hml, hown, hts⟩ (c_GM_link l D G2 M _  (r, M1) hM1) (cwV 0 hts (gV kw562 kw563 kw564 kw7 kw565) rfl rfl rfl (by decide +kernel) ⟨by show (4 : Nat) + 1 ≤ 2048; omega, by show 8 + (7 + 11) + 98 ≤ 84000; omega⟩) ⟨blindM, va_recv (ci := 6) (q0 := 0) hK2 hP2 rfl (m_0 G2 M), fun U hU hW => ⟨rfl, mPre_of hP2 hK2 hD2 hU hW⟩⟩ rfl rfl hl.1 rfl (lv_room (Nat.le_of_ble_eq_true rfl)) d_L_law_211 ⟨by show 53 + 0 ≤ 600000; omega, by show 2393 + 0 ≤ 7302250; omega⟩) hX hP hD2 hS hA (fun r2 M2 H locs hw hP2 hD2 hP hS => ?_)
      obtain ⟨h1, h2⟩ := Prod.mk.inj hw
      subst h1
      subst h2
      refine lv_icmp_eq (tgt := 449) hx hb d_L_law_214 (by decide) (fun _ => ?_) (fun c9 => absurd rfl c9)
      exact again S1 M2 _ _ ls hR1 hP hP2 hD hD2 hS hl
    by_cases c_32_5 : op = 5
    · refine lv_tableIn (tgt := 219) hx hb d_L_law_32 (by rw [c_32_5]; decide) (by rw [c_32_5]; decide) (by rw [c_32_5]; first | done | rfl) (by decide) ?_
      refine lv_aload_n hx hb d_L_law_219 rfl (lv_at hl 2 rfl) ?_
      refine lq_i (va_runV (As := []) (rest := []) ⟨hx, hb, hml, hown, hts⟩ (c_GS_start l D G S _  (4 * j) hI) (cwV 0 hts (gV kw287 kw288 kw289 kw1 kw290) rfl rfl rfl (by decide +kernel) ⟨by show (5 : Nat) + 1 ≤ 2048; omega, by show 8 + (1 + 11) + 109 ≤ 84000; omega⟩) ⟨blindC, va_recv (ci := 0) (q0 := 0) hK hP rfl (w_0 G S), fun U hU hW => ⟨rfl, cPre_of hP hK hD hN hU hW⟩⟩ rfl rfl hl.1 rfl (lv_room (Nat.le_of_ble_eq_true rfl)) d_L_law_220 ⟨by show 53 + 0 ≤ 600000; omega, by show 2393 + 0 ≤ 7302250; omega⟩) hX hP2 hD hS hA (fun r S1 H locs hw hP hD hP2 hS => ?_)
      have er : r = (f_GS_start S ).1 := congrArg Prod.fst hw.1
      have eS : S1 = (f_GS_start S ).2 := congrArg Prod.snd hw.1
      obtain ⟨M1, hM1, hR1⟩ := h_start j S M  hj5 hR
      rw [← eS] at hR1
      rw [← er] at hM1
      refine lv_aload_n hx hb d_L_law_223 rfl (lv_at hl 1 rfl) ?_
      refine mq_i (va_runV (As := []) (rest := [.int r]) ⟨hx, hb, hml, hown, hts⟩ (c_GM_start l D G2 M _  (r, M1) hM1) (cwV 0 hts (gV kw569 kw570 kw571 kw7 kw572) rfl rfl rfl (by decide +kernel) ⟨by show (1 : Nat) + 1 ≤ 2048; omega, by show 8 + (1 + 11) + 22 ≤ 84000; omega⟩) ⟨blindM, va_recv (ci := 6) (q0 := 0) hK2 hP2 rfl (m_0 G2 M), fun U hU hW => ⟨rfl, mPre_of hP2 hK2 hD2 hU hW⟩⟩ rfl rfl hl.1 rfl (lv_room (Nat.le_of_ble_eq_true rfl)) d_L_law_224 ⟨by show 53 + 0 ≤ 600000; omega, by show 2393 + 0 ≤ 7302250; omega⟩) hX hP hD2 hS hA (fun r2 M2 H locs hw hP2 hD2 hP hS => ?_)
      obtain ⟨h1, h2⟩ := Prod.mk.inj hw
      subst h1
      subst h2
      refine lv_icmp_eq (tgt := 449) hx hb d_L_law_227 (by decide) (fun _ => ?_) (fun c9 => absurd rfl c9)
      exact again S1 M2 _ _ ls hR1 hP hP2 hD hD2 hS hl
    by_cases c_32_6 : op = 6
    · refine lv_tableIn (tgt := 232) hx hb d_L_law_32 (by rw [c_32_6]; decide) (by rw [c_32_6]; decide) (by rw [c_32_6]; first | done | rfl) (by decide) ?_
      refine lv_aload_n hx hb d_L_law_232 rfl (lv_at hl 2 rfl) ?_
      refine lv_aload_n hx hb d_L_law_233 rfl (lv_at hl 3 rfl) ?_
      refine lv_iload_n hx hb d_L_law_234 rfl (lv_at hl 0 rfl) ?_
      refine lv_iconst (v := 1) hx hb d_L_law_235 (by decide) ?_
      refine lv_iadd hx hb d_L_law_236 ?_
      refine va_sld hx hb hXs hbl hbA hS (by rw [ex3]; exact li (k := 1) rfl (by omega) hL) d_L_law_237 ?_
      refine lq_i (va_runV (As := [.int (xs (x3 + 1).toNatClampNeg)]) (rest := []) ⟨hx, hb, hml, hown, hts⟩ (c_GS_run l D G S _ (xs (x3 + 1).toNatClampNeg) (4 * j) hI (by omega)) (cwV 1 hts (gV kw329 kw330 kw331 kw1 kw332) rfl rfl rfl (by decide +kernel) ⟨by show (22 : Nat) + 1 ≤ 2048; omega, by show 8 + (3 + 11) + 610 ≤ 84000; omega⟩) ⟨blindC, va_recv (ci := 0) (q0 := 0) hK hP rfl (w_0 G S), fun U hU hW => ⟨rfl, cPre_of hP hK hD hN hU hW⟩⟩ rfl rfl hl.1 rfl (lv_room (Nat.le_of_ble_eq_true rfl)) d_L_law_238 ⟨by show 53 + 0 ≤ 600000; omega, by show 2393 + 0 ≤ 7302250; omega⟩) hX hP2 hD hS hA (fun r S1 H locs hw hP hD hP2 hS => ?_)
      have er : r = (f_GS_run S (xs (x3 + 1).toNatClampNeg)).1 := congrArg Prod.fst hw.1
      have eS : S1 = (f_GS_run S (xs (x3 + 1).toNatClampNeg)).2 := congrArg Prod.snd hw.1
      obtain ⟨M1, hM1, hR1⟩ := h_run j S M (xs (x3 + 1).toNatClampNeg) hj5 hR
      rw [← eS] at hR1
      rw [← er] at hM1
      refine lv_aload_n hx hb d_L_law_241 rfl (lv_at hl 1 rfl) ?_
      refine lv_aload_n hx hb d_L_law_242 rfl (lv_at hl 3 rfl) ?_
      refine lv_iload_n hx hb d_L_law_243 rfl (lv_at hl 0 rfl) ?_
      refine lv_iconst (v := 1) hx hb d_L_law_244 (by decide) ?_
      refine lv_iadd hx hb d_L_law_245 ?_
      refine va_sld hx hb hXs hbl hbA hS (by rw [ex3]; exact li (k := 1) rfl (by omega) hL) d_L_law_246 ?_
      refine mq_i (va_runV (As := [.int (xs (x3 + 1).toNatClampNeg)]) (rest := [.int r]) ⟨hx, hb, hml, hown, hts⟩ (c_GM_run l D G2 M _ (xs (x3 + 1).toNatClampNeg) (r, M1) hM1) (cwV 1 hts (gV kw576 kw577 kw578 kw7 kw579) rfl rfl rfl (by decide +kernel) ⟨by show (5 : Nat) + 1 ≤ 2048; omega, by show 8 + (3 + 11) + 117 ≤ 84000; omega⟩) ⟨blindM, va_recv (ci := 6) (q0 := 0) hK2 hP2 rfl (m_0 G2 M), fun U hU hW => ⟨rfl, mPre_of hP2 hK2 hD2 hU hW⟩⟩ rfl rfl hl.1 rfl (lv_room (Nat.le_of_ble_eq_true rfl)) d_L_law_247 ⟨by show 53 + 0 ≤ 600000; omega, by show 2393 + 0 ≤ 7302250; omega⟩) hX hP hD2 hS hA (fun r2 M2 H locs hw hP2 hD2 hP hS => ?_)
      obtain ⟨h1, h2⟩ := Prod.mk.inj hw
      subst h1
      subst h2
      refine lv_icmp_eq (tgt := 449) hx hb d_L_law_250 (by decide) (fun _ => ?_) (fun c9 => absurd rfl c9)
      exact again S1 M2 _ _ ls hR1 hP hP2 hD hD2 hS hl
    by_cases c_32_7 : op = 7
    · refine lv_tableIn (tgt := 255) hx hb d_L_law_32 (by rw [c_32_7]; decide) (by rw [c_32_7]; decide) (by rw [c_32_7]; first | done | rfl) (by decide) ?_
      refine lv_aload_n hx hb d_L_law_255 rfl (lv_at hl 2 rfl) ?_
      refine lq_i (va_runV (As := []) (rest := []) ⟨hx, hb, hml, hown, hts⟩ (c_GS_stop l D G S _  (4 * j) hI) (cwV 0 hts (gV kw373 kw374 kw375 kw1 kw376) rfl rfl rfl (by decide +kernel) ⟨by show (1 : Nat) + 1 ≤ 2048; omega, by show 8 + (1 + 11) + 20 ≤ 84000; omega⟩) ⟨blindC, va_recv (ci := 0) (q0 := 0) hK hP rfl (w_0 G S), fun U hU hW => ⟨rfl, cPre_of hP hK hD hN hU hW⟩⟩ rfl rfl hl.1 rfl (lv_room (Nat.le_of_ble_eq_true rfl)) d_L_law_256 ⟨by show 53 + 0 ≤ 600000; omega, by show 2393 + 0 ≤ 7302250; omega⟩) hX hP2 hD hS hA (fun r S1 H locs hw hP hD hP2 hS => ?_)
      have er : r = (f_GS_stop S ).1 := congrArg Prod.fst hw.1
      have eS : S1 = (f_GS_stop S ).2 := congrArg Prod.snd hw.1
      obtain ⟨M1, hM1, hR1⟩ := h_stop j S M  hj5 hR
      rw [← eS] at hR1
      rw [← er] at hM1
      refine lv_aload_n hx hb d_L_law_259 rfl (lv_at hl 1 rfl) ?_
      refine mq_i (va_runV (As := []) (rest := [.int r]) ⟨hx, hb, hml, hown, hts⟩ (c_GM_stop l D G2 M _  (r, M1) hM1) (cwV 0 hts (gV kw595 kw596 kw597 kw7 kw598) rfl rfl rfl (by decide +kernel) ⟨by show (0 : Nat) + 1 ≤ 2048; omega, by show 8 + (1 + 11) + 0 ≤ 84000; omega⟩) ⟨blindM, va_recv (ci := 6) (q0 := 0) hK2 hP2 rfl (m_0 G2 M), fun U hU hW => ⟨rfl, mPre_of hP2 hK2 hD2 hU hW⟩⟩ rfl rfl hl.1 rfl (lv_room (Nat.le_of_ble_eq_true rfl)) d_L_law_260 ⟨by show 53 + 0 ≤ 600000; omega, by show 2393 + 0 ≤ 7302250; omega⟩) hX hP hD2 hS hA (fun r2 M2 H locs hw hP2 hD2 hP hS => ?_)
      obtain ⟨h1, h2⟩ := Prod.mk.inj hw
      subst h1
      subst h2
      refine lv_icmp_eq (tgt := 449) hx hb d_L_law_263 (by decide) (fun _ => ?_) (fun c9 => absurd rfl c9)
      exact again S1 M2 _ _ ls hR1 hP hP2 hD hD2 hS hl
    by_cases c_32_8 : op = 8
    · refine lv_tableIn (tgt := 268) hx hb d_L_law_32 (by rw [c_32_8]; decide) (by rw [c_32_8]; decide) (by rw [c_32_8]; first | done | rfl) (by decide) ?_
      refine lv_aload_n hx hb d_L_law_268 rfl (lv_at hl 2 rfl) ?_
      refine lv_aload_n hx hb d_L_law_269 rfl (lv_at hl 3 rfl) ?_
      refine lv_iload_n hx hb d_L_law_270 rfl (lv_at hl 0 rfl) ?_
      refine lv_iconst (v := 1) hx hb d_L_law_271 (by decide) ?_
      refine lv_iadd hx hb d_L_law_272 ?_
      refine va_sld hx hb hXs hbl hbA hS (by rw [ex3]; exact li (k := 1) rfl (by omega) hL) d_L_law_273 ?_
      refine lv_aload_n hx hb d_L_law_274 rfl (lv_at hl 3 rfl) ?_
      refine lv_iload_n hx hb d_L_law_275 rfl (lv_at hl 0 rfl) ?_
      refine lv_iconst (v := 2) hx hb d_L_law_276 (by decide) ?_
      refine lv_iadd hx hb d_L_law_277 ?_
      refine va_sld hx hb hXs hbl hbA hS (by rw [ex3]; exact li (k := 2) rfl (by omega) hL) d_L_law_278 ?_
      refine lq_i (va_runV (As := [.int (xs (x3 + 1).toNatClampNeg), .int (xs (x3 + 2).toNatClampNeg)]) (rest := []) ⟨hx, hb, hml, hown, hts⟩ (c_GS_set l D G S _ (xs (x3 + 1).toNatClampNeg) (xs (x3 + 2).toNatClampNeg) (4 * j) hI) (cwV 2 hts (gV kw377 kw378 kw379 kw1 kw380) rfl rfl rfl (by decide +kernel) ⟨by show (2 : Nat) + 1 ≤ 2048; omega, by show 8 + (3 + 11) + 42 ≤ 84000; omega⟩) ⟨blindC, va_recv (ci := 0) (q0 := 0) hK hP rfl (w_0 G S), fun U hU hW => ⟨rfl, cPre_of hP hK hD hN hU hW⟩⟩ rfl rfl hl.1 rfl (lv_room (Nat.le_of_ble_eq_true rfl)) d_L_law_279 ⟨by show 53 + 0 ≤ 600000; omega, by show 2393 + 0 ≤ 7302250; omega⟩) hX hP2 hD hS hA (fun r S1 H locs hw hP hD hP2 hS => ?_)
      have er : r = (f_GS_set S (xs (x3 + 1).toNatClampNeg) (xs (x3 + 2).toNatClampNeg)).1 := congrArg Prod.fst hw.1
      have eS : S1 = (f_GS_set S (xs (x3 + 1).toNatClampNeg) (xs (x3 + 2).toNatClampNeg)).2 := congrArg Prod.snd hw.1
      obtain ⟨M1, hM1, hR1⟩ := h_set j S M (xs (x3 + 1).toNatClampNeg) (xs (x3 + 2).toNatClampNeg) hj5 hR
      rw [← eS] at hR1
      rw [← er] at hM1
      refine lv_aload_n hx hb d_L_law_282 rfl (lv_at hl 1 rfl) ?_
      refine lv_aload_n hx hb d_L_law_283 rfl (lv_at hl 3 rfl) ?_
      refine lv_iload_n hx hb d_L_law_284 rfl (lv_at hl 0 rfl) ?_
      refine lv_iconst (v := 1) hx hb d_L_law_285 (by decide) ?_
      refine lv_iadd hx hb d_L_law_286 ?_
      refine va_sld hx hb hXs hbl hbA hS (by rw [ex3]; exact li (k := 1) rfl (by omega) hL) d_L_law_287 ?_
      refine lv_aload_n hx hb d_L_law_288 rfl (lv_at hl 3 rfl) ?_
      refine lv_iload_n hx hb d_L_law_289 rfl (lv_at hl 0 rfl) ?_
      refine lv_iconst (v := 2) hx hb d_L_law_290 (by decide) ?_
      refine lv_iadd hx hb d_L_law_291 ?_
      refine va_sld hx hb hXs hbl hbA hS (by rw [ex3]; exact li (k := 2) rfl (by omega) hL) d_L_law_292 ?_
      refine mq_i (va_runV (As := [.int (xs (x3 + 1).toNatClampNeg), .int (xs (x3 + 2).toNatClampNeg)]) (rest := [.int r]) ⟨hx, hb, hml, hown, hts⟩ (c_GM_set l D G2 M _ (xs (x3 + 1).toNatClampNeg) (xs (x3 + 2).toNatClampNeg) (r, M1) hM1) (cwV 2 hts (gV kw599 kw600 kw601 kw7 kw602) rfl rfl rfl (by decide +kernel) ⟨by show (1 : Nat) + 1 ≤ 2048; omega, by show 8 + (3 + 11) + 22 ≤ 84000; omega⟩) ⟨blindM, va_recv (ci := 6) (q0 := 0) hK2 hP2 rfl (m_0 G2 M), fun U hU hW => ⟨rfl, mPre_of hP2 hK2 hD2 hU hW⟩⟩ rfl rfl hl.1 rfl (lv_room (Nat.le_of_ble_eq_true rfl)) d_L_law_293 ⟨by show 53 + 0 ≤ 600000; omega, by show 2393 + 0 ≤ 7302250; omega⟩) hX hP hD2 hS hA (fun r2 M2 H locs hw hP2 hD2 hP hS => ?_)
      obtain ⟨h1, h2⟩ := Prod.mk.inj hw
      subst h1
      subst h2
      refine lv_icmp_eq (tgt := 449) hx hb d_L_law_296 (by decide) (fun _ => ?_) (fun c9 => absurd rfl c9)
      exact again S1 M2 _ _ ls hR1 hP hP2 hD hD2 hS hl
    by_cases c_32_9 : op = 9
    · refine lv_tableIn (tgt := 301) hx hb d_L_law_32 (by rw [c_32_9]; decide) (by rw [c_32_9]; decide) (by rw [c_32_9]; first | done | rfl) (by decide) ?_
      refine lv_aload_n hx hb d_L_law_301 rfl (lv_at hl 2 rfl) ?_
      refine lv_aload_n hx hb d_L_law_302 rfl (lv_at hl 3 rfl) ?_
      refine lv_iload_n hx hb d_L_law_303 rfl (lv_at hl 0 rfl) ?_
      refine lv_iconst (v := 1) hx hb d_L_law_304 (by decide) ?_
      refine lv_iadd hx hb d_L_law_305 ?_
      refine va_sld hx hb hXs hbl hbA hS (by rw [ex3]; exact li (k := 1) rfl (by omega) hL) d_L_law_306 ?_
      refine vp_callSl (W.runV (As := [.int (xs (x3 + 1).toNatClampNeg)]) (rest := []) ⟨hx, hb, hml, hown, hts⟩ (c_GS_get l D G S (xs (x3 + 1).toNatClampNeg) (4 * j) hI) (cwV 1 hts (gV kw382 kw383 kw384 kw1 kw385) rfl rfl rfl (by decide +kernel) ⟨by show (2 : Nat) + 1 ≤ 2048; omega, by show 8 + (2 + 11) + 41 ≤ 84000; omega⟩) ⟨blindR, va_recv (ci := 0) (q0 := 0) hK hP rfl (w_0 G S), fun U hU hW => ⟨rfl, rPre_of hP hK hN hU hW⟩⟩ rfl rfl hl.1 rfl (lv_room (Nat.le_of_ble_eq_true rfl)) d_L_law_307 ⟨by show 53 + 0 ≤ 600000; omega, by show 2393 + 0 ≤ 7302250; omega⟩) (fun r er => ?_)
      obtain ⟨M1, hM1, hR1⟩ := h_get j S M (xs (x3 + 1).toNatClampNeg) hj5 hR
      rw [← er] at hM1
      refine lv_aload_n hx hb d_L_law_310 rfl (lv_at hl 1 rfl) ?_
      refine lv_aload_n hx hb d_L_law_311 rfl (lv_at hl 3 rfl) ?_
      refine lv_iload_n hx hb d_L_law_312 rfl (lv_at hl 0 rfl) ?_
      refine lv_iconst (v := 1) hx hb d_L_law_313 (by decide) ?_
      refine lv_iadd hx hb d_L_law_314 ?_
      refine va_sld hx hb hXs hbl hbA hS (by rw [ex3]; exact li (k := 1) rfl (by omega) hL) d_L_law_315 ?_
      refine mq_l (va_runV (As := [.int (xs (x3 + 1).toNatClampNeg)]) (rest := [.long r]) ⟨hx, hb, hml, hown, hts⟩ (c_GM_get l D G2 M _ (xs (x3 + 1).toNatClampNeg) (r, M1) hM1) (cwV 1 hts (gV kw603 kw604 kw605 kw7 kw606) rfl rfl rfl (by decide +kernel) ⟨by show (1 : Nat) + 1 ≤ 2048; omega, by show 8 + (2 + 11) + 22 ≤ 84000; omega⟩) ⟨blindM, va_recv (ci := 6) (q0 := 0) hK2 hP2 rfl (m_0 G2 M), fun U hU hW => ⟨rfl, mPre_of hP2 hK2 hD2 hU hW⟩⟩ rfl rfl hl.1 rfl (lv_room (Nat.le_of_ble_eq_true rfl)) d_L_law_316 ⟨by show 53 + 0 ≤ 600000; omega, by show 2393 + 0 ≤ 7302250; omega⟩) hX hP hD2 hS hA (fun r2 M2 H locs hw hP2 hD2 hP hS => ?_)
      obtain ⟨h1, h2⟩ := Prod.mk.inj hw
      subst h1
      subst h2
      refine W.lcmp hx hb d_L_law_319 ?_
      refine lv_if_eq (tgt := 449) hx hb d_L_law_320 (by decide) (fun _ => ?_) (fun c9 => absurd (lg_cmp_same _) c9)
      exact again S M2 _ _ ls hR1 hP hP2 hD hD2 hS hl
    by_cases c_32_10 : op = 10
    · refine lv_tableIn (tgt := 325) hx hb d_L_law_32 (by rw [c_32_10]; decide) (by rw [c_32_10]; decide) (by rw [c_32_10]; first | done | rfl) (by decide) ?_
      refine lv_aload_n hx hb d_L_law_325 rfl (lv_at hl 2 rfl) ?_
      refine lv_aload_n hx hb d_L_law_326 rfl (lv_at hl 3 rfl) ?_
      refine lv_iload_n hx hb d_L_law_327 rfl (lv_at hl 0 rfl) ?_
      refine lv_iconst (v := 1) hx hb d_L_law_328 (by decide) ?_
      refine lv_iadd hx hb d_L_law_329 ?_
      refine va_sld hx hb hXs hbl hbA hS (by rw [ex3]; exact li (k := 1) rfl (by omega) hL) d_L_law_330 ?_
      refine vp_callSl (W.runV (As := [.int (xs (x3 + 1).toNatClampNeg)]) (rest := []) ⟨hx, hb, hml, hown, hts⟩ (c_GS_output l D G S (xs (x3 + 1).toNatClampNeg) (4 * j) hI) (cwV 1 hts (gV kw392 kw393 kw394 kw1 kw395) rfl rfl rfl (by decide +kernel) ⟨by show (2 : Nat) + 1 ≤ 2048; omega, by show 8 + (2 + 11) + 42 ≤ 84000; omega⟩) ⟨blindR, va_recv (ci := 0) (q0 := 0) hK hP rfl (w_0 G S), fun U hU hW => ⟨rfl, rPre_of hP hK hN hU hW⟩⟩ rfl rfl hl.1 rfl (lv_room (Nat.le_of_ble_eq_true rfl)) d_L_law_331 ⟨by show 53 + 0 ≤ 600000; omega, by show 2393 + 0 ≤ 7302250; omega⟩) (fun r er => ?_)
      obtain ⟨M1, hM1, hR1⟩ := h_output j S M (xs (x3 + 1).toNatClampNeg) hj5 hR
      rw [← er] at hM1
      refine lv_aload_n hx hb d_L_law_334 rfl (lv_at hl 1 rfl) ?_
      refine lv_aload_n hx hb d_L_law_335 rfl (lv_at hl 3 rfl) ?_
      refine lv_iload_n hx hb d_L_law_336 rfl (lv_at hl 0 rfl) ?_
      refine lv_iconst (v := 1) hx hb d_L_law_337 (by decide) ?_
      refine lv_iadd hx hb d_L_law_338 ?_
      refine va_sld hx hb hXs hbl hbA hS (by rw [ex3]; exact li (k := 1) rfl (by omega) hL) d_L_law_339 ?_
      refine mq_l (va_runV (As := [.int (xs (x3 + 1).toNatClampNeg)]) (rest := [.long r]) ⟨hx, hb, hml, hown, hts⟩ (c_GM_output l D G2 M _ (xs (x3 + 1).toNatClampNeg) (r, M1) hM1) (cwV 1 hts (gV kw608 kw609 kw610 kw7 kw611) rfl rfl rfl (by decide +kernel) ⟨by show (1 : Nat) + 1 ≤ 2048; omega, by show 8 + (2 + 11) + 22 ≤ 84000; omega⟩) ⟨blindM, va_recv (ci := 6) (q0 := 0) hK2 hP2 rfl (m_0 G2 M), fun U hU hW => ⟨rfl, mPre_of hP2 hK2 hD2 hU hW⟩⟩ rfl rfl hl.1 rfl (lv_room (Nat.le_of_ble_eq_true rfl)) d_L_law_340 ⟨by show 53 + 0 ≤ 600000; omega, by show 2393 + 0 ≤ 7302250; omega⟩) hX hP hD2 hS hA (fun r2 M2 H locs hw hP2 hD2 hP hS => ?_)
      obtain ⟨h1, h2⟩ := Prod.mk.inj hw
      subst h1
      subst h2
      refine W.lcmp hx hb d_L_law_343 ?_
      refine lv_if_eq (tgt := 449) hx hb d_L_law_344 (by decide) (fun _ => ?_) (fun c9 => absurd (lg_cmp_same _) c9)
      exact again S M2 _ _ ls hR1 hP hP2 hD hD2 hS hl
    by_cases c_32_11 : op = 11
    · refine lv_tableIn (tgt := 349) hx hb d_L_law_32 (by rw [c_32_11]; decide) (by rw [c_32_11]; decide) (by rw [c_32_11]; first | done | rfl) (by decide) ?_
      refine lv_aload_n hx hb d_L_law_349 rfl (lv_at hl 2 rfl) ?_
      refine lv_aload_n hx hb d_L_law_350 rfl (lv_at hl 3 rfl) ?_
      refine lv_iload_n hx hb d_L_law_351 rfl (lv_at hl 0 rfl) ?_
      refine lv_iconst (v := 1) hx hb d_L_law_352 (by decide) ?_
      refine lv_iadd hx hb d_L_law_353 ?_
      refine va_sld hx hb hXs hbl hbA hS (by rw [ex3]; exact li (k := 1) rfl (by omega) hL) d_L_law_354 ?_
      refine vp_callSi (W.runV (As := [.int (xs (x3 + 1).toNatClampNeg)]) (rest := []) ⟨hx, hb, hml, hown, hts⟩ (c_GS_at l D G S (xs (x3 + 1).toNatClampNeg) (4 * j) hI) (cwV 1 hts (gV kw405 kw406 kw407 kw1 kw408) rfl rfl rfl (by decide +kernel) ⟨by show (4 : Nat) + 1 ≤ 2048; omega, by show 8 + (2 + 11) + 84 ≤ 84000; omega⟩) ⟨blindR, va_recv (ci := 0) (q0 := 0) hK hP rfl (w_0 G S), fun U hU hW => ⟨rfl, rPre_of hP hK hN hU hW⟩⟩ rfl rfl hl.1 rfl (lv_room (Nat.le_of_ble_eq_true rfl)) d_L_law_355 ⟨by show 53 + 0 ≤ 600000; omega, by show 2393 + 0 ≤ 7302250; omega⟩) (fun r er => ?_)
      obtain ⟨M1, hM1, hR1⟩ := h_at j S M (xs (x3 + 1).toNatClampNeg) hj5 hR
      rw [← er] at hM1
      refine lv_aload_n hx hb d_L_law_358 rfl (lv_at hl 1 rfl) ?_
      refine lv_aload_n hx hb d_L_law_359 rfl (lv_at hl 3 rfl) ?_
      refine lv_iload_n hx hb d_L_law_360 rfl (lv_at hl 0 rfl) ?_
      refine lv_iconst (v := 1) hx hb d_L_law_361 (by decide) ?_
      refine lv_iadd hx hb d_L_law_362 ?_
      refine va_sld hx hb hXs hbl hbA hS (by rw [ex3]; exact li (k := 1) rfl (by omega) hL) d_L_law_363 ?_
      refine mq_i (va_runV (As := [.int (xs (x3 + 1).toNatClampNeg)]) (rest := [.int r]) ⟨hx, hb, hml, hown, hts⟩ (c_GM_at l D G2 M _ (xs (x3 + 1).toNatClampNeg) (r, M1) hM1) (cwV 1 hts (gV kw612 kw613 kw614 kw7 kw615) rfl rfl rfl (by decide +kernel) ⟨by show (1 : Nat) + 1 ≤ 2048; omega, by show 8 + (2 + 11) + 22 ≤ 84000; omega⟩) ⟨blindM, va_recv (ci := 6) (q0 := 0) hK2 hP2 rfl (m_0 G2 M), fun U hU hW => ⟨rfl, mPre_of hP2 hK2 hD2 hU hW⟩⟩ rfl rfl hl.1 rfl (lv_room (Nat.le_of_ble_eq_true rfl)) d_L_law_364 ⟨by show 53 + 0 ≤ 600000; omega, by show 2393 + 0 ≤ 7302250; omega⟩) hX hP hD2 hS hA (fun r2 M2 H locs hw hP2 hD2 hP hS => ?_)
      obtain ⟨h1, h2⟩ := Prod.mk.inj hw
      subst h1
      subst h2
      refine lv_icmp_eq (tgt := 449) hx hb d_L_law_367 (by decide) (fun _ => ?_) (fun c9 => absurd rfl c9)
      exact again S M2 _ _ ls hR1 hP hP2 hD hD2 hS hl
    by_cases c_32_12 : op = 12
    · refine lv_tableIn (tgt := 372) hx hb d_L_law_32 (by rw [c_32_12]; decide) (by rw [c_32_12]; decide) (by rw [c_32_12]; first | done | rfl) (by decide) ?_
      refine lv_aload_n hx hb d_L_law_372 rfl (lv_at hl 2 rfl) ?_
      refine lv_aload_n hx hb d_L_law_373 rfl (lv_at hl 3 rfl) ?_
      refine lv_iload_n hx hb d_L_law_374 rfl (lv_at hl 0 rfl) ?_
      refine lv_iconst (v := 1) hx hb d_L_law_375 (by decide) ?_
      refine lv_iadd hx hb d_L_law_376 ?_
      refine va_sld hx hb hXs hbl hbA hS (by rw [ex3]; exact li (k := 1) rfl (by omega) hL) d_L_law_377 ?_
      refine lv_aload_n hx hb d_L_law_378 rfl (lv_at hl 3 rfl) ?_
      refine lv_iload_n hx hb d_L_law_379 rfl (lv_at hl 0 rfl) ?_
      refine lv_iconst (v := 2) hx hb d_L_law_380 (by decide) ?_
      refine lv_iadd hx hb d_L_law_381 ?_
      refine va_sld hx hb hXs hbl hbA hS (by rw [ex3]; exact li (k := 2) rfl (by omega) hL) d_L_law_382 ?_
      refine lv_aload_n hx hb d_L_law_383 rfl (lv_at hl 3 rfl) ?_
      refine lv_iload_n hx hb d_L_law_384 rfl (lv_at hl 0 rfl) ?_
      refine lv_iconst (v := 3) hx hb d_L_law_385 (by decide) ?_
      refine lv_iadd hx hb d_L_law_386 ?_
      refine va_sld hx hb hXs hbl hbA hS (by rw [ex3]; exact li (k := 3) rfl (by omega) hL) d_L_law_387 ?_
      refine vp_callSl (W.runV (As := [.int (xs (x3 + 1).toNatClampNeg), .int (xs (x3 + 2).toNatClampNeg), .int (xs (x3 + 3).toNatClampNeg)]) (rest := []) ⟨hx, hb, hml, hown, hts⟩ (c_GS_operate l D G S (xs (x3 + 1).toNatClampNeg) (xs (x3 + 2).toNatClampNeg) (xs (x3 + 3).toNatClampNeg) (4 * j) hI) (cwV 3 hts (gV kw429 kw430 kw431 kw1 kw432) rfl rfl rfl (by decide +kernel) ⟨by show (1 : Nat) + 1 ≤ 2048; omega, by show 8 + (4 + 11) + 22 ≤ 84000; omega⟩) ⟨blindR, va_recv (ci := 0) (q0 := 0) hK hP rfl (w_0 G S), fun U hU hW => ⟨rfl, rPre_of hP hK hN hU hW⟩⟩ rfl rfl hl.1 rfl (lv_room (Nat.le_of_ble_eq_true rfl)) d_L_law_388 ⟨by show 53 + 0 ≤ 600000; omega, by show 2393 + 0 ≤ 7302250; omega⟩) (fun r er => ?_)
      obtain ⟨M1, hM1, hR1⟩ := h_operate j S M (xs (x3 + 1).toNatClampNeg) (xs (x3 + 2).toNatClampNeg) (xs (x3 + 3).toNatClampNeg) hj5 hR
      rw [← er] at hM1
      refine lv_aload_n hx hb d_L_law_391 rfl (lv_at hl 1 rfl) ?_
      refine lv_aload_n hx hb d_L_law_392 rfl (lv_at hl 3 rfl) ?_
      refine lv_iload_n hx hb d_L_law_393 rfl (lv_at hl 0 rfl) ?_
      refine lv_iconst (v := 1) hx hb d_L_law_394 (by decide) ?_
      refine lv_iadd hx hb d_L_law_395 ?_
      refine va_sld hx hb hXs hbl hbA hS (by rw [ex3]; exact li (k := 1) rfl (by omega) hL) d_L_law_396 ?_
      refine lv_aload_n hx hb d_L_law_397 rfl (lv_at hl 3 rfl) ?_
      refine lv_iload_n hx hb d_L_law_398 rfl (lv_at hl 0 rfl) ?_
      refine lv_iconst (v := 2) hx hb d_L_law_399 (by decide) ?_
      refine lv_iadd hx hb d_L_law_400 ?_
      refine va_sld hx hb hXs hbl hbA hS (by rw [ex3]; exact li (k := 2) rfl (by omega) hL) d_L_law_401 ?_
      refine lv_aload_n hx hb d_L_law_402 rfl (lv_at hl 3 rfl) ?_
      refine lv_iload_n hx hb d_L_law_403 rfl (lv_at hl 0 rfl) ?_
      refine lv_iconst (v := 3) hx hb d_L_law_404 (by decide) ?_
      refine lv_iadd hx hb d_L_law_405 ?_
      refine va_sld hx hb hXs hbl hbA hS (by rw [ex3]; exact li (k := 3) rfl (by omega) hL) d_L_law_406 ?_
      refine mq_l (va_runV (As := [.int (xs (x3 + 1).toNatClampNeg), .int (xs (x3 + 2).toNatClampNeg), .int (xs (x3 + 3).toNatClampNeg)]) (rest := [.long r]) ⟨hx, hb, hml, hown, hts⟩ (c_GM_operate l D G2 M _ (xs (x3 + 1).toNatClampNeg) (xs (x3 + 2).toNatClampNeg) (xs (x3 + 3).toNatClampNeg) (r, M1) hM1) (cwV 3 hts (gV kw616 kw617 kw618 kw7 kw619) rfl rfl rfl (by decide +kernel) ⟨by show (1 : Nat) + 1 ≤ 2048; omega, by show 8 + (5 + 11) + 22 ≤ 84000; omega⟩) ⟨blindM, va_recv (ci := 6) (q0 := 0) hK2 hP2 rfl (m_0 G2 M), fun U hU hW => ⟨rfl, mPre_of hP2 hK2 hD2 hU hW⟩⟩ rfl rfl hl.1 rfl (lv_room (Nat.le_of_ble_eq_true rfl)) d_L_law_407 ⟨by show 53 + 0 ≤ 600000; omega, by show 2393 + 0 ≤ 7302250; omega⟩) hX hP hD2 hS hA (fun r2 M2 H locs hw hP2 hD2 hP hS => ?_)
      obtain ⟨h1, h2⟩ := Prod.mk.inj hw
      subst h1
      subst h2
      refine W.lcmp hx hb d_L_law_410 ?_
      refine lv_if_eq (tgt := 449) hx hb d_L_law_411 (by decide) (fun _ => ?_) (fun c9 => absurd (lg_cmp_same _) c9)
      exact again S M2 _ _ ls hR1 hP hP2 hD hD2 hS hl
    by_cases c_32_13 : op = 13
    · refine lv_tableIn (tgt := 416) hx hb d_L_law_32 (by rw [c_32_13]; decide) (by rw [c_32_13]; decide) (by rw [c_32_13]; first | done | rfl) (by decide) ?_
      refine lv_aload_n hx hb d_L_law_416 rfl (lv_at hl 2 rfl) ?_
      refine lv_aload_n hx hb d_L_law_417 rfl (lv_at hl 3 rfl) ?_
      refine lv_iload_n hx hb d_L_law_418 rfl (lv_at hl 0 rfl) ?_
      refine lv_iconst (v := 1) hx hb d_L_law_419 (by decide) ?_
      refine lv_iadd hx hb d_L_law_420 ?_
      refine va_sld hx hb hXs hbl hbA hS (by rw [ex3]; exact li (k := 1) rfl (by omega) hL) d_L_law_421 ?_
      refine lv_aload_n hx hb d_L_law_422 rfl (lv_at hl 3 rfl) ?_
      refine lv_iload_n hx hb d_L_law_423 rfl (lv_at hl 0 rfl) ?_
      refine lv_iconst (v := 2) hx hb d_L_law_424 (by decide) ?_
      refine lv_iadd hx hb d_L_law_425 ?_
      refine va_sld hx hb hXs hbl hbA hS (by rw [ex3]; exact li (k := 2) rfl (by omega) hL) d_L_law_426 ?_
      refine vp_callSi (W.runV (As := [.int (xs (x3 + 1).toNatClampNeg), .int (xs (x3 + 2).toNatClampNeg)]) (rest := []) ⟨hx, hb, hml, hown, hts⟩ (c_GS_state l D G S (xs (x3 + 1).toNatClampNeg) (xs (x3 + 2).toNatClampNeg) (4 * j) hI) (cwV 2 hts (gV kw434 kw435 kw436 kw1 kw437) rfl rfl rfl (by decide +kernel) ⟨by show (1 : Nat) + 1 ≤ 2048; omega, by show 8 + (3 + 11) + 20 ≤ 84000; omega⟩) ⟨blindR, va_recv (ci := 0) (q0 := 0) hK hP rfl (w_0 G S), fun U hU hW => ⟨rfl, rPre_of hP hK hN hU hW⟩⟩ rfl rfl hl.1 rfl (lv_room (Nat.le_of_ble_eq_true rfl)) d_L_law_427 ⟨by show 53 + 0 ≤ 600000; omega, by show 2393 + 0 ≤ 7302250; omega⟩) (fun r er => ?_)
      obtain ⟨M1, hM1, hR1⟩ := h_state j S M (xs (x3 + 1).toNatClampNeg) (xs (x3 + 2).toNatClampNeg) hj5 hR
      rw [← er] at hM1
      refine lv_aload_n hx hb d_L_law_430 rfl (lv_at hl 1 rfl) ?_
      refine lv_aload_n hx hb d_L_law_431 rfl (lv_at hl 3 rfl) ?_
      refine lv_iload_n hx hb d_L_law_432 rfl (lv_at hl 0 rfl) ?_
      refine lv_iconst (v := 1) hx hb d_L_law_433 (by decide) ?_
      refine lv_iadd hx hb d_L_law_434 ?_
      refine va_sld hx hb hXs hbl hbA hS (by rw [ex3]; exact li (k := 1) rfl (by omega) hL) d_L_law_435 ?_
      refine lv_aload_n hx hb d_L_law_436 rfl (lv_at hl 3 rfl) ?_
      refine lv_iload_n hx hb d_L_law_437 rfl (lv_at hl 0 rfl) ?_
      refine lv_iconst (v := 2) hx hb d_L_law_438 (by decide) ?_
      refine lv_iadd hx hb d_L_law_439 ?_
      refine va_sld hx hb hXs hbl hbA hS (by rw [ex3]; exact li (k := 2) rfl (by omega) hL) d_L_law_440 ?_
      refine mq_i (va_runV (As := [.int (xs (x3 + 1).toNatClampNeg), .int (xs (x3 + 2).toNatClampNeg)]) (rest := [.int r]) ⟨hx, hb, hml, hown, hts⟩ (c_GM_state l D G2 M _ (xs (x3 + 1).toNatClampNeg) (xs (x3 + 2).toNatClampNeg) (r, M1) hM1) (cwV 2 hts (gV kw620 kw621 kw622 kw7 kw623) rfl rfl rfl (by decide +kernel) ⟨by show (1 : Nat) + 1 ≤ 2048; omega, by show 8 + (3 + 11) + 22 ≤ 84000; omega⟩) ⟨blindM, va_recv (ci := 6) (q0 := 0) hK2 hP2 rfl (m_0 G2 M), fun U hU hW => ⟨rfl, mPre_of hP2 hK2 hD2 hU hW⟩⟩ rfl rfl hl.1 rfl (lv_room (Nat.le_of_ble_eq_true rfl)) d_L_law_441 ⟨by show 53 + 0 ≤ 600000; omega, by show 2393 + 0 ≤ 7302250; omega⟩) hX hP hD2 hS hA (fun r2 M2 H locs hw hP2 hD2 hP hS => ?_)
      obtain ⟨h1, h2⟩ := Prod.mk.inj hw
      subst h1
      subst h2
      refine lv_icmp_eq (tgt := 449) hx hb d_L_law_444 (by decide) (fun _ => ?_) (fun c9 => absurd rfl c9)
      exact again S M2 _ _ ls hR1 hP hP2 hD hD2 hS hl
    refine lv_tableOut (tgt := 449) hx hb d_L_law_32 (by have q0 := lv_neT (a := 0) c_32_0 (by decide); have q1 := lv_neT (a := 1) c_32_1 (by decide); have q2 := lv_neT (a := 2) c_32_2 (by decide); have q3 := lv_neT (a := 3) c_32_3 (by decide); have q4 := lv_neT (a := 4) c_32_4 (by decide); have q5 := lv_neT (a := 5) c_32_5 (by decide); have q6 := lv_neT (a := 6) c_32_6 (by decide); have q7 := lv_neT (a := 7) c_32_7 (by decide); have q8 := lv_neT (a := 8) c_32_8 (by decide); have q9 := lv_neT (a := 9) c_32_9 (by decide); have q10 := lv_neT (a := 10) c_32_10 (by decide); have q11 := lv_neT (a := 11) c_32_11 (by decide); have q12 := lv_neT (a := 12) c_32_12 (by decide); have q13 := lv_neT (a := 13) c_32_13 (by decide); omega) (by decide) ?_
    exact again S M _ _ ls (hidle j S M hR) hP hP2 hD hD2 hS hl
