set_option maxHeartbeats 4000000 in
set_option maxRecDepth 100000 in
theorem c_GS_loosen (l : Launch) (D : va_G) (G : GP) (S : CS) (sz : Nat) (N : Nat) (hI : IC N S) : Met l y_GS_loosen ws_GS_loosen ({ frames := 1, cells := 0, slots := 0, locals := 20 }) (va_Pc [.ref (aA G 0)] (cPre D G S sz)) (va_Qv (fun S' : CS => S' = f_GS_loosen S ∧ IC N S') (wB D G (va_A (wC G S) sz)) (va_A (wC G S) sz)) 0 0 (va_A (wC G S) sz) := by
  refine Met.ofW (cc := b_GS_loosen) (maxL := 1) (ret := none) (by decide) rfl ?_
  intro p e s m args below meth c s₁ B hml hv
  obtain ⟨rfl, hsz, hP, hK, hD0, hN⟩ := hv
  have hx := B.exec
  have hb := B.bytes
  have hr := B.returns
  have hts := atoms_spec (ws := ws_GS_loosen) B.pre
  have hown : s.vm.findClass R_GS = some m.cls := findClass_of_methodNamed B.named
  have hlocks := B.notSynchronized
  subst hsz
  have hD := hD0.self (sz := s.heap.size)
  generalize hAe : va_A (wC G S) s.heap.size = A at hD ⊢
  have hA : ∀ q : Nat, s.heap.size ≤ q → A q := fun q h => by rw [← hAe]; exact Or.inr h
  have hS : va_S A s.heap s.heap [] := va_S.rf
  have hl := lv_entry ([.ref (aA G 0)]) (n := 1) (Nat.le_of_ble_eq_true rfl)
  rw [lg_entry_eq]
  generalize (lg_sl ([.ref (aA G 0)]) ++ List.replicate (1 - (lg_sl ([.ref (aA G 0)])).length) Slot.unset).toArray = ls at hl ⊢
  have hl : lv_has ls 1 [(0, .ref (aA G 0))] := hl
  refine lv_aload_n hx hb d_GS_loosen_0 rfl (lv_at hl 0 rfl) ?_
  refine lv_iconst (v := 0) hx hb d_GS_loosen_1 (by decide) ?_
  refine va_putE (D := D) (ci := 0) (v := .int 0) (ty := .boolean) (C := R_GS) (T := T_GS) (N := 6) hx hb hts (fun w h => List.mem_cons_of_mem _ (in_GS w h)) t_GS t_GS_ok n_GS hown hK hP hD hS 0 (w_0 G S) rfl 5 (by decide) (hts _ (List.mem_cons_of_mem _ kw105)) (fun _ h9 => h9) rfl (by decide +kernel) rfl rfl (Nat.le_of_ble_eq_true rfl) (wst_0_5 G S 0) d_GS_loosen_2 (fun H locs hP hD hS => ?_)
  obtain ⟨S2, eS2⟩ : ∃ y : CS, y = stR S 0 5 0 := ⟨_, rfl⟩
  rw [← eS2] at hP hD
  have hI : IC N S2 := by rw [eS2]; exact IC_R hI _ _ _ (by decide)
  refine lv_aload_n hx hb d_GS_loosen_5 rfl (lv_at hl 0 rfl) ?_
  refine va_get (D := D) (ci := 0) (v := .ref (aA G 9)) (C := R_GS) (T := T_GS) (N := 6) hx hb hts (fun w h => List.mem_cons_of_mem _ (in_GS w h)) hown hK hP 0 (w_0 G S2) rfl 4 (by decide) (hts _ (List.mem_cons_of_mem _ kw104)) (fun _ h9 => h9) rfl d_GS_loosen_6 ?_
  refine cq_v (va_runV (As := []) (rest := []) ⟨hx, hb, hml, hown, hts⟩ (c_MA_halt l D G S2 _ N hI) (cwV 0 hts (gV kw126 kw127 kw128 kw6 kw129) rfl rfl rfl (by decide +kernel) ⟨by show (0 : Nat) + 1 ≤ 1; omega, by show 8 + (1 + 11) + 0 ≤ 20; omega⟩) ⟨blindC, va_recv (ci := 5) (q0 := 9) hK hP rfl (w_9 G S2), fun U hU hW => ⟨rfl, cPre_of hP hK hD hN hU hW⟩⟩ rfl rfl hl.1 rfl (lv_room (Nat.le_of_ble_eq_true rfl)) d_GS_loosen_9 ⟨Nat.zero_le _, Nat.zero_le _⟩) hD hS hA (fun S9 H locs hw hP hD hS => ?_)
  obtain ⟨eS9, hI⟩ := hw
  exact W.vret hx hb hr (fun t ht hW => ⟨⟨S9, rfl, ⟨by subst eS9; subst eS2; simp only [f_GS_loosen], hI⟩, by rw [ht]; exact hP, hD⟩, hS.F ht⟩) hS.2.2 d_GS_loosen_12
set_option maxHeartbeats 4000000 in
set_option maxRecDepth 100000 in
theorem c_GS_sign (l : Launch) (D : va_G) (G : GP) (S : CS) (sz : Nat) (p1 : Int32) (p2 : Int32) (N : Nat) (hI : IC N S) : Met l y_GS_sign ws_GS_sign ({ frames := 2, cells := 0, slots := 0, locals := 40 }) (va_Pc [.ref (aA G 0), .int p1, .int p2] (cPre D G S sz)) (va_Qi (fun (r : Int32) (S' : CS) => (r, S') = f_GS_sign S p1 p2 ∧ IC N S') (wB D G (va_A (wC G S) sz)) (va_A (wC G S) sz)) 0 0 (va_A (wC G S) sz) := by
  refine Met.ofW (cc := b_GS_sign) (maxL := 3) (ret := (some .int)) (by decide) rfl ?_
  intro p e s m args below meth c s₁ B hml hv
  obtain ⟨rfl, hsz, hP, hK, hD0, hN⟩ := hv
  have hx := B.exec
  have hb := B.bytes
  have hr := B.returns
  have hts := atoms_spec (ws := ws_GS_sign) B.pre
  have hown : s.vm.findClass R_GS = some m.cls := findClass_of_methodNamed B.named
  have hlocks := B.notSynchronized
  subst hsz
  have hD := hD0.self (sz := s.heap.size)
  generalize hAe : va_A (wC G S) s.heap.size = A at hD ⊢
  have hA : ∀ q : Nat, s.heap.size ≤ q → A q := fun q h => by rw [← hAe]; exact Or.inr h
  have hS : va_S A s.heap s.heap [] := va_S.rf
  have hl := lv_entry ([.ref (aA G 0), .int p1, .int p2]) (n := 3) (Nat.le_of_ble_eq_true rfl)
  rw [lg_entry_eq]
  generalize (lg_sl ([.ref (aA G 0), .int p1, .int p2]) ++ List.replicate (3 - (lg_sl ([.ref (aA G 0), .int p1, .int p2])).length) Slot.unset).toArray = ls at hl ⊢
  have hl : lv_has ls 3 [(0, .ref (aA G 0)), (1, .int p1), (2, .int p2)] := hl
  refine lv_iload_n hx hb d_GS_sign_0 rfl (lv_at hl 1 rfl) ?_
  refine vp_callSi (W.runS (As := [.int p1]) (rest := []) ⟨hx, hb, hml, hown, hts⟩ (c_GS_isModule l p1) (cwS 1 hts (gS kw116 kw117 kw1 kw118) rfl rfl rfl (by decide +kernel) ⟨by show (0 : Nat) + 1 ≤ 2; omega, by show 8 + (1 + 11) + 0 ≤ 40; omega⟩) ⟨blindP, fun U hU hW => ⟨rfl, NW_warm hW hN⟩⟩ rfl rfl hl.1 rfl (lv_room (Nat.le_of_ble_eq_true rfl)) d_GS_sign_1 ⟨Nat.zero_le _, Nat.zero_le _⟩) (fun x1 ex1 => ?_)
  obtain ⟨ex1, bx1⟩ := ex1
  refine lv_if_eq (tgt := 19) hx hb d_GS_sign_4 (by decide) (fun c_4 => ?_) (fun c_4 => ?_)
  · refine lv_iconst (v := (-1)) hx hb d_GS_sign_19 (by decide) ?_
    exact W.iret (v := (-1)) hx hb hr (fun t ht hW => ⟨⟨(-1), S, rfl, ⟨by subst ex1; simp only [f_GS_sign, if_pos c_4], hI⟩, by rw [ht]; exact hP, hD⟩, hS.F ht⟩) hS.2.2 d_GS_sign_20
  · refine lv_iload_n hx hb d_GS_sign_7 rfl (lv_at hl 2 rfl) ?_
    refine lv_bipush (v := 33) hx hb d_GS_sign_8 (by decide) ?_
    refine lv_icmp_lt (tgt := 19) hx hb d_GS_sign_10 (by decide) (fun c_10 => ?_) (fun c_10 => ?_)
    · refine lv_iconst (v := (-1)) hx hb d_GS_sign_19 (by decide) ?_
      exact W.iret (v := (-1)) hx hb hr (fun t ht hW => ⟨⟨(-1), S, rfl, ⟨by subst ex1; simp only [f_GS_sign, if_neg c_4, if_pos c_10], hI⟩, by rw [ht]; exact hP, hD⟩, hS.F ht⟩) hS.2.2 d_GS_sign_20
    · refine lv_iload_n hx hb d_GS_sign_13 rfl (lv_at hl 2 rfl) ?_
      refine lv_bipush (v := 126) hx hb d_GS_sign_14 (by decide) ?_
      refine lv_icmp_le (tgt := 21) hx hb d_GS_sign_16 (by decide) (fun c_16 => ?_) (fun c_16 => ?_)
      · refine lv_aload_n hx hb d_GS_sign_21 rfl (lv_at hl 0 rfl) ?_
        refine va_get (D := D) (ci := 0) (v := .ref (aA G 1)) (C := R_GS) (T := T_GS) (N := 6) hx hb hts (fun w h => List.mem_cons_of_mem _ (in_GS w h)) hown hK hP 0 (w_0 G S) rfl 0 (by decide) (hts _ (List.mem_cons_of_mem _ kw100)) (fun _ h9 => h9) rfl d_GS_sign_22 ?_
        refine lv_iload_n hx hb d_GS_sign_25 rfl (lv_at hl 1 rfl) ?_
        refine md_ald (D := D) hx hb hK hP (md_in (by rw [← ex1]; exact c_4)) d_GS_sign_26 ?_
        refine lv_iload_n hx hb d_GS_sign_27 rfl (lv_at hl 2 rfl) ?_
        refine cq_i (va_runV (As := [.int p2]) (rest := []) ⟨hx, hb, hml, hown, hts⟩ (c_MT_append l D G S _ p1.toNatClampNeg p2 N hI (md_k (by rw [← ex1]; exact c_4))) (cwV 1 hts (gV kw119 kw120 kw121 kw2 kw122) rfl rfl rfl (by decide +kernel) ⟨by show (0 : Nat) + 1 ≤ 2; omega, by show 8 + (2 + 11) + 0 ≤ 40; omega⟩) ⟨blindC, va_recv (ci := 1) (q0 := 13 + 7 * p1.toNatClampNeg) hK hP rfl (wt_0 G S (md_k (by rw [← ex1]; exact c_4))), fun U hU hW => ⟨rfl, cPre_of hP hK hD hN hU hW⟩⟩ rfl rfl hl.1 rfl (lv_room (Nat.le_of_ble_eq_true rfl)) d_GS_sign_28 ⟨Nat.zero_le _, Nat.zero_le _⟩) hD hS hA (fun x28 S28 H locs hw hP hD hS => ?_)
        obtain ⟨hw, hI, bx28⟩ := hw
        have ex28 : x28 = (f_MT_append S p1.toNatClampNeg p2).1 := congrArg Prod.fst hw
        have eS28 : S28 = (f_MT_append S p1.toNatClampNeg p2).2 := congrArg Prod.snd hw
        clear hw
        refine lv_if_ne (tgt := 36) hx hb d_GS_sign_31 (by decide) (fun c_31 => ?_) (fun c_31 => ?_)
        · refine lv_aload_n hx hb d_GS_sign_36 rfl (lv_at hl 0 rfl) ?_
          refine cq_v (va_runV (As := []) (rest := []) ⟨hx, hb, hml, hown, hts⟩ (c_GS_loosen l D G S28 _ N hI) (cwV 0 hts (gV kw123 kw124 kw624 kw1 kw125) rfl rfl rfl (by decide +kernel) ⟨by show (1 : Nat) + 1 ≤ 2; omega, by show 8 + (1 + 11) + 20 ≤ 40; omega⟩) ⟨blindC, va_recv (ci := 0) (q0 := 0) hK hP rfl (w_0 G S28), fun U hU hW => ⟨rfl, cPre_of hP hK hD hN hU hW⟩⟩ rfl rfl hl.1 rfl (lv_room (Nat.le_of_ble_eq_true rfl)) d_GS_sign_37 ⟨Nat.zero_le _, Nat.zero_le _⟩) hD hS hA (fun S37 H locs hw hP hD hS => ?_)
          obtain ⟨eS37, hI⟩ := hw
          refine lv_aload_n hx hb d_GS_sign_40 rfl (lv_at hl 0 rfl) ?_
          refine va_get (D := D) (ci := 0) (v := .ref (aA G 1)) (C := R_GS) (T := T_GS) (N := 6) hx hb hts (fun w h => List.mem_cons_of_mem _ (in_GS w h)) hown hK hP 0 (w_0 G S37) rfl 0 (by decide) (hts _ (List.mem_cons_of_mem _ kw100)) (fun _ h9 => h9) rfl d_GS_sign_41 ?_
          refine lv_iload_n hx hb d_GS_sign_44 rfl (lv_at hl 1 rfl) ?_
          refine md_ald (D := D) hx hb hK hP (md_in (by rw [← ex1]; exact c_4)) d_GS_sign_45 ?_
          refine vp_callSi (W.runV (As := []) (rest := []) ⟨hx, hb, hml, hown, hts⟩ (c_MT_length l D G S37 p1.toNatClampNeg N hI (md_k (by rw [← ex1]; exact c_4))) (cwV 0 hts (gV kw130 kw131 kw132 kw2 kw133) rfl rfl rfl (by decide +kernel) ⟨by show (0 : Nat) + 1 ≤ 2; omega, by show 8 + (1 + 11) + 0 ≤ 40; omega⟩) ⟨blindR, va_recv (ci := 1) (q0 := 13 + 7 * p1.toNatClampNeg) hK hP rfl (wt_0 G S37 (md_k (by rw [← ex1]; exact c_4))), fun U hU hW => ⟨rfl, rPre_of hP hK hN hU hW⟩⟩ rfl rfl hl.1 rfl (lv_room (Nat.le_of_ble_eq_true rfl)) d_GS_sign_46 ⟨Nat.zero_le _, Nat.zero_le _⟩) (fun x46 ex46 => ?_)
          exact W.iret (v := x46) hx hb hr (fun t ht hW => ⟨⟨x46, S37, rfl, ⟨by subst ex46; subst eS37; subst eS28; subst ex28; subst ex1; simp only [f_GS_sign, if_neg c_4, if_neg c_10, if_pos c_16, if_neg c_31], hI⟩, by rw [ht]; exact hP, hD⟩, hS.F ht⟩) hS.2.2 d_GS_sign_49
        · refine lv_iconst (v := (-1)) hx hb d_GS_sign_34 (by decide) ?_
          exact W.iret (v := (-1)) hx hb hr (fun t ht hW => ⟨⟨(-1), S28, rfl, ⟨by subst eS28; subst ex28; subst ex1; simp only [f_GS_sign, if_neg c_4, if_neg c_10, if_pos c_16, if_pos c_31], hI⟩, by rw [ht]; exact hP, hD⟩, hS.F ht⟩) hS.2.2 d_GS_sign_35
      · refine lv_iconst (v := (-1)) hx hb d_GS_sign_19 (by decide) ?_
        exact W.iret (v := (-1)) hx hb hr (fun t ht hW => ⟨⟨(-1), S, rfl, ⟨by subst ex1; simp only [f_GS_sign, if_neg c_4, if_neg c_10, if_neg c_16], hI⟩, by rw [ht]; exact hP, hD⟩, hS.F ht⟩) hS.2.2 d_GS_sign_20
set_option maxHeartbeats 4000000 in
set_option maxRecDepth 100000 in
theorem c_GS_clear (l : Launch) (D : va_G) (G : GP) (S : CS) (sz : Nat) (p1 : Int32) (N : Nat) (hI : IC N S) : Met l y_GS_clear ws_GS_clear ({ frames := 2, cells := 0, slots := 0, locals := 40 }) (va_Pc [.ref (aA G 0), .int p1] (cPre D G S sz)) (va_Qi (fun (r : Int32) (S' : CS) => (r, S') = f_GS_clear S p1 ∧ IC N S') (wB D G (va_A (wC G S) sz)) (va_A (wC G S) sz)) 0 0 (va_A (wC G S) sz) := by
  refine Met.ofW (cc := b_GS_clear) (maxL := 2) (ret := (some .int)) (by decide) rfl ?_
  intro p e s m args below meth c s₁ B hml hv
  obtain ⟨rfl, hsz, hP, hK, hD0, hN⟩ := hv
  have hx := B.exec
  have hb := B.bytes
  have hr := B.returns
  have hts := atoms_spec (ws := ws_GS_clear) B.pre
  have hown : s.vm.findClass R_GS = some m.cls := findClass_of_methodNamed B.named
  have hlocks := B.notSynchronized
  subst hsz
  have hD := hD0.self (sz := s.heap.size)
  generalize hAe : va_A (wC G S) s.heap.size = A at hD ⊢
  have hA : ∀ q : Nat, s.heap.size ≤ q → A q := fun q h => by rw [← hAe]; exact Or.inr h
  have hS : va_S A s.heap s.heap [] := va_S.rf
  have hl := lv_entry ([.ref (aA G 0), .int p1]) (n := 2) (Nat.le_of_ble_eq_true rfl)
  rw [lg_entry_eq]
  generalize (lg_sl ([.ref (aA G 0), .int p1]) ++ List.replicate (2 - (lg_sl ([.ref (aA G 0), .int p1])).length) Slot.unset).toArray = ls at hl ⊢
  have hl : lv_has ls 2 [(0, .ref (aA G 0)), (1, .int p1)] := hl
  refine lv_iload_n hx hb d_GS_clear_0 rfl (lv_at hl 1 rfl) ?_
  refine vp_callSi (W.runS (As := [.int p1]) (rest := []) ⟨hx, hb, hml, hown, hts⟩ (c_GS_isModule l p1) (cwS 1 hts (gS kw116 kw117 kw1 kw118) rfl rfl rfl (by decide +kernel) ⟨by show (0 : Nat) + 1 ≤ 2; omega, by show 8 + (1 + 11) + 0 ≤ 40; omega⟩) ⟨blindP, fun U hU hW => ⟨rfl, NW_warm hW hN⟩⟩ rfl rfl hl.1 rfl (lv_room (Nat.le_of_ble_eq_true rfl)) d_GS_clear_1 ⟨Nat.zero_le _, Nat.zero_le _⟩) (fun x1 ex1 => ?_)
  obtain ⟨ex1, bx1⟩ := ex1
  refine lv_if_ne (tgt := 9) hx hb d_GS_clear_4 (by decide) (fun c_4 => ?_) (fun c_4 => ?_)
  · refine lv_aload_n hx hb d_GS_clear_9 rfl (lv_at hl 0 rfl) ?_
    refine va_get (D := D) (ci := 0) (v := .ref (aA G 1)) (C := R_GS) (T := T_GS) (N := 6) hx hb hts (fun w h => List.mem_cons_of_mem _ (in_GS w h)) hown hK hP 0 (w_0 G S) rfl 0 (by decide) (hts _ (List.mem_cons_of_mem _ kw100)) (fun _ h9 => h9) rfl d_GS_clear_10 ?_
    refine lv_iload_n hx hb d_GS_clear_13 rfl (lv_at hl 1 rfl) ?_
    refine md_ald (D := D) hx hb hK hP (md_in (by rw [← ex1]; exact c_4)) d_GS_clear_14 ?_
    refine cq_v (va_runV (As := []) (rest := []) ⟨hx, hb, hml, hown, hts⟩ (c_MT_empty l D G S _ p1.toNatClampNeg N hI (md_k (by rw [← ex1]; exact c_4))) (cwV 0 hts (gV kw138 kw139 kw140 kw2 kw141) rfl rfl rfl (by decide +kernel) ⟨by show (1 : Nat) + 1 ≤ 2; omega, by show 8 + (1 + 11) + 20 ≤ 40; omega⟩) ⟨blindC, va_recv (ci := 1) (q0 := 13 + 7 * p1.toNatClampNeg) hK hP rfl (wt_0 G S (md_k (by rw [← ex1]; exact c_4))), fun U hU hW => ⟨rfl, cPre_of hP hK hD hN hU hW⟩⟩ rfl rfl hl.1 rfl (lv_room (Nat.le_of_ble_eq_true rfl)) d_GS_clear_15 ⟨Nat.zero_le _, Nat.zero_le _⟩) hD hS hA (fun S15 H locs hw hP hD hS => ?_)
    obtain ⟨eS15, hI⟩ := hw
    refine lv_aload_n hx hb d_GS_clear_18 rfl (lv_at hl 0 rfl) ?_
    refine cq_v (va_runV (As := []) (rest := []) ⟨hx, hb, hml, hown, hts⟩ (c_GS_loosen l D G S15 _ N hI) (cwV 0 hts (gV kw123 kw124 kw624 kw1 kw125) rfl rfl rfl (by decide +kernel) ⟨by show (1 : Nat) + 1 ≤ 2; omega, by show 8 + (1 + 11) + 20 ≤ 40; omega⟩) ⟨blindC, va_recv (ci := 0) (q0 := 0) hK hP rfl (w_0 G S15), fun U hU hW => ⟨rfl, cPre_of hP hK hD hN hU hW⟩⟩ rfl rfl hl.1 rfl (lv_room (Nat.le_of_ble_eq_true rfl)) d_GS_clear_19 ⟨Nat.zero_le _, Nat.zero_le _⟩) hD hS hA (fun S19 H locs hw hP hD hS => ?_)
    obtain ⟨eS19, hI⟩ := hw
    refine lv_iconst (v := 0) hx hb d_GS_clear_22 (by decide) ?_
    exact W.iret (v := 0) hx hb hr (fun t ht hW => ⟨⟨0, S19, rfl, ⟨by subst eS19; subst eS15; subst ex1; simp only [f_GS_clear, if_neg c_4], hI⟩, by rw [ht]; exact hP, hD⟩, hS.F ht⟩) hS.2.2 d_GS_clear_23
  · refine lv_iconst (v := (-1)) hx hb d_GS_clear_7 (by decide) ?_
    exact W.iret (v := (-1)) hx hb hr (fun t ht hW => ⟨⟨(-1), S, rfl, ⟨by subst ex1; simp only [f_GS_clear, if_pos c_4], hI⟩, by rw [ht]; exact hP, hD⟩, hS.F ht⟩) hS.2.2 d_GS_clear_8
set_option maxHeartbeats 4000000 in
set_option maxRecDepth 100000 in
theorem c_GS_compile (l : Launch) (D : va_G) (G : GP) (S : CS) (sz : Nat) (p1 : Int32) (N : Nat) (hI : IC N S) : Met l y_GS_compile ws_GS_compile ({ frames := 6, cells := 0, slots := 0, locals := 137 }) (va_Pc [.ref (aA G 0), .int p1] (cPre D G S sz)) (va_Qi (fun (r : Int32) (S' : CS) => (r, S') = f_GS_compile S p1 ∧ IC N S') (wB D G (va_A (wC G S) sz)) (va_A (wC G S) sz)) 0 0 (va_A (wC G S) sz) := by
  refine Met.ofW (cc := b_GS_compile) (maxL := 4) (ret := (some .int)) (by decide) rfl ?_
  intro p e s m args below meth c s₁ B hml hv
  obtain ⟨rfl, hsz, hP, hK, hD0, hN⟩ := hv
  have hx := B.exec
  have hb := B.bytes
  have hr := B.returns
  have hts := atoms_spec (ws := ws_GS_compile) B.pre
  have hown : s.vm.findClass R_GS = some m.cls := findClass_of_methodNamed B.named
  have hlocks := B.notSynchronized
  subst hsz
  have hD := hD0.self (sz := s.heap.size)
  generalize hAe : va_A (wC G S) s.heap.size = A at hD ⊢
  have hA : ∀ q : Nat, s.heap.size ≤ q → A q := fun q h => by rw [← hAe]; exact Or.inr h
  have hS : va_S A s.heap s.heap [] := va_S.rf
  have hl := lv_entry ([.ref (aA G 0), .int p1]) (n := 4) (Nat.le_of_ble_eq_true rfl)
  rw [lg_entry_eq]
  generalize (lg_sl ([.ref (aA G 0), .int p1]) ++ List.replicate (4 - (lg_sl ([.ref (aA G 0), .int p1])).length) Slot.unset).toArray = ls at hl ⊢
  have hl : lv_has ls 4 [(0, .ref (aA G 0)), (1, .int p1)] := hl
  refine lv_iload_n hx hb d_GS_compile_0 rfl (lv_at hl 1 rfl) ?_
  refine vp_callSi (W.runS (As := [.int p1]) (rest := []) ⟨hx, hb, hml, hown, hts⟩ (c_GS_isModule l p1) (cwS 1 hts (gS kw116 kw117 kw1 kw118) rfl rfl rfl (by decide +kernel) ⟨by show (0 : Nat) + 1 ≤ 6; omega, by show 8 + (1 + 11) + 0 ≤ 137; omega⟩) ⟨blindP, fun U hU hW => ⟨rfl, NW_warm hW hN⟩⟩ rfl rfl hl.1 rfl (lv_room (Nat.le_of_ble_eq_true rfl)) d_GS_compile_1 ⟨Nat.zero_le _, Nat.zero_le _⟩) (fun x1 ex1 => ?_)
  obtain ⟨ex1, bx1⟩ := ex1
  refine lv_if_ne (tgt := 9) hx hb d_GS_compile_4 (by decide) (fun c_4 => ?_) (fun c_4 => ?_)
  · refine lv_aload_n hx hb d_GS_compile_9 rfl (lv_at hl 0 rfl) ?_
    refine va_get (D := D) (ci := 0) (v := .ref (aA G 1)) (C := R_GS) (T := T_GS) (N := 6) hx hb hts (fun w h => List.mem_cons_of_mem _ (in_GS w h)) hown hK hP 0 (w_0 G S) rfl 0 (by decide) (hts _ (List.mem_cons_of_mem _ kw100)) (fun _ h9 => h9) rfl d_GS_compile_10 ?_
    refine lv_iload_n hx hb d_GS_compile_13 rfl (lv_at hl 1 rfl) ?_
    refine md_ald (D := D) hx hb hK hP (md_in (by rw [← ex1]; exact c_4)) d_GS_compile_14 ?_
    refine lv_astore_n (lv' := [(2, .ref (tA G p1.toNatClampNeg 0)), (0, .ref (aA G 0)), (1, .int p1)]) hx hb d_GS_compile_15 rfl hl (by decide) rfl (fun ls hl => ?_)
    refine lv_aload_n hx hb d_GS_compile_16 rfl (lv_at hl 1 rfl) ?_
    refine va_get (D := D) (ci := 0) (v := .ref (aA G 2)) (C := R_GS) (T := T_GS) (N := 6) hx hb hts (fun w h => List.mem_cons_of_mem _ (in_GS w h)) hown hK hP 0 (w_0 G S) rfl 1 (by decide) (hts _ (List.mem_cons_of_mem _ kw101)) (fun _ h9 => h9) rfl d_GS_compile_17 ?_
    refine lv_aload_n hx hb d_GS_compile_20 rfl (lv_at hl 0 rfl) ?_
    refine cq_i (va_runV (As := [.ref (tA G p1.toNatClampNeg 0)]) (rest := []) ⟨hx, hb, hml, hown, hts⟩ (c_RD_faultOf l D G S _ p1.toNatClampNeg N hI (md_k (by rw [← ex1]; exact c_4))) (cwV 1 hts (gV kw150 kw151 kw152 kw3 kw153) rfl rfl rfl (by decide +kernel) ⟨by show (5 : Nat) + 1 ≤ 6; omega, by show 8 + (4 + 11) + 114 ≤ 137; omega⟩) ⟨blindC, va_recv (ci := 2) (q0 := 2) hK hP rfl (w_2 G S), fun U hU hW => ⟨rfl, cPre_of hP hK hD hN hU hW⟩⟩ rfl rfl hl.1 rfl (lv_room (Nat.le_of_ble_eq_true rfl)) d_GS_compile_21 ⟨Nat.zero_le _, Nat.zero_le _⟩) hD hS hA (fun x21 S21 H locs hw hP hD hS => ?_)
    obtain ⟨hw, hI⟩ := hw
    have ex21 : x21 = (f_RD_faultOf S p1.toNatClampNeg).1 := congrArg Prod.fst hw
    have eS21 : S21 = (f_RD_faultOf S p1.toNatClampNeg).2 := congrArg Prod.snd hw
    clear hw
    refine lv_bipush (v := (-2)) hx hb d_GS_compile_24 (by decide) ?_
    refine lv_icmp_ne (tgt := 33) hx hb d_GS_compile_26 (by decide) (fun c_26 => ?_) (fun c_26 => ?_)
    · refine lv_iconst (v := 0) hx hb d_GS_compile_33 (by decide) ?_
      refine lv_istore_n (lv' := [(3, .int 0), (2, .ref (tA G p1.toNatClampNeg 0)), (0, .ref (aA G 0)), (1, .int p1)]) hx hb d_GS_compile_34 rfl hl (by decide) rfl (fun ls hl => ?_)
      refine lv_aload_n hx hb d_GS_compile_35 rfl (lv_at hl 1 rfl) ?_
      refine lv_iload_n hx hb d_GS_compile_36 rfl (lv_at hl 0 rfl) ?_
      refine lv_if_eq (tgt := 51) hx hb d_GS_compile_37 (by decide) (fun c_37 => ?_) (fun c_37 => ?_)
      · refine lv_iconst (v := 0) hx hb d_GS_compile_51 (by decide) ?_
        refine cq_v (va_runV (As := [.int 0]) (rest := []) ⟨hx, hb, hml, hown, hts⟩ (c_MT_mark l D G S21 _ p1.toNatClampNeg 0 N hI (md_k (by rw [← ex1]; exact c_4)) (Or.inl rfl)) (cwV 1 hts (gV kw236 kw237 kw238 kw2 kw239) rfl rfl rfl (by decide +kernel) ⟨by show (0 : Nat) + 1 ≤ 6; omega, by show 8 + (2 + 11) + 0 ≤ 137; omega⟩) ⟨blindC, va_recv (ci := 1) (q0 := 13 + 7 * p1.toNatClampNeg) hK hP rfl (wt_0 G S21 (md_k (by rw [← ex1]; exact c_4))), fun U hU hW => ⟨rfl, cPre_of hP hK hD hN hU hW⟩⟩ rfl rfl hl.1 rfl (lv_room (Nat.le_of_ble_eq_true rfl)) d_GS_compile_52 ⟨Nat.zero_le _, Nat.zero_le _⟩) hD hS hA (fun S52 H locs hw hP hD hS => ?_)
        obtain ⟨eS52, hI⟩ := hw
        refine lv_aload_n hx hb d_GS_compile_55 rfl (lv_at hl 2 rfl) ?_
        refine cq_v (va_runV (As := []) (rest := []) ⟨hx, hb, hml, hown, hts⟩ (c_GS_loosen l D G S52 _ N hI) (cwV 0 hts (gV kw123 kw124 kw624 kw1 kw125) rfl rfl rfl (by decide +kernel) ⟨by show (1 : Nat) + 1 ≤ 6; omega, by show 8 + (1 + 11) + 20 ≤ 137; omega⟩) ⟨blindC, va_recv (ci := 0) (q0 := 0) hK hP rfl (w_0 G S52), fun U hU hW => ⟨rfl, cPre_of hP hK hD hN hU hW⟩⟩ rfl rfl hl.1 rfl (lv_room (Nat.le_of_ble_eq_true rfl)) d_GS_compile_56 ⟨Nat.zero_le _, Nat.zero_le _⟩) hD hS hA (fun S56 H locs hw hP hD hS => ?_)
        obtain ⟨eS56, hI⟩ := hw
        refine lv_iload_n hx hb d_GS_compile_59 rfl (lv_at hl 0 rfl) ?_
        refine lv_if_ne (tgt := 66) hx hb d_GS_compile_60 (by decide) (fun c_60 => ?_) (fun c_60 => ?_)
        · exact absurd c_60 (by decide)
        · refine lv_bipush (v := (-2)) hx hb d_GS_compile_63 (by decide) ?_
          exact W.iret (v := (-2)) hx hb hr (fun t ht hW => ⟨⟨(-2), S56, rfl, ⟨by subst eS56; subst eS52; subst eS21; subst ex21; subst ex1; simp only [f_GS_compile, if_neg c_4, if_neg c_26], hI⟩, by rw [ht]; exact hP, hD⟩, hS.F ht⟩) hS.2.2 d_GS_compile_65
      · exact absurd c_37 (by decide)
    · refine lv_iconst (v := 1) hx hb d_GS_compile_29 (by decide) ?_
      refine lv_goto (tgt := 34) hx hb d_GS_compile_30 (by decide) ?_
      refine lv_istore_n (lv' := [(3, .int 1), (2, .ref (tA G p1.toNatClampNeg 0)), (0, .ref (aA G 0)), (1, .int p1)]) hx hb d_GS_compile_34 rfl hl (by decide) rfl (fun ls hl => ?_)
      refine lv_aload_n hx hb d_GS_compile_35 rfl (lv_at hl 1 rfl) ?_
      refine lv_iload_n hx hb d_GS_compile_36 rfl (lv_at hl 0 rfl) ?_
      refine lv_if_eq (tgt := 51) hx hb d_GS_compile_37 (by decide) (fun c_37 => ?_) (fun c_37 => ?_)
      · exact absurd c_37 (by decide)
      · refine lv_aload_n hx hb d_GS_compile_40 rfl (lv_at hl 1 rfl) ?_
        refine vp_callSi (W.runV (As := []) (rest := [.ref (tA G p1.toNatClampNeg 0)]) ⟨hx, hb, hml, hown, hts⟩ (c_MT_hasTwins l D G S21 p1.toNatClampNeg N hI (md_k (by rw [← ex1]; exact c_4))) (cwV 0 hts (gV kw232 kw233 kw234 kw2 kw235) rfl rfl rfl (by decide +kernel) ⟨by show (0 : Nat) + 1 ≤ 6; omega, by show 8 + (1 + 11) + 0 ≤ 137; omega⟩) ⟨blindR, va_recv (ci := 1) (q0 := 13 + 7 * p1.toNatClampNeg) hK hP rfl (wt_0 G S21 (md_k (by rw [← ex1]; exact c_4))), fun U hU hW => ⟨rfl, rPre_of hP hK hN hU hW⟩⟩ rfl rfl hl.1 rfl (lv_room (Nat.le_of_ble_eq_true rfl)) d_GS_compile_41 ⟨Nat.zero_le _, Nat.zero_le _⟩) (fun x41 ex41 => ?_)
        obtain ⟨ex41, bx41⟩ := ex41
        refine lv_if_ne (tgt := 51) hx hb d_GS_compile_44 (by decide) (fun c_44 => ?_) (fun c_44 => ?_)
        · refine lv_iconst (v := 0) hx hb d_GS_compile_51 (by decide) ?_
          refine cq_v (va_runV (As := [.int 0]) (rest := []) ⟨hx, hb, hml, hown, hts⟩ (c_MT_mark l D G S21 _ p1.toNatClampNeg 0 N hI (md_k (by rw [← ex1]; exact c_4)) (Or.inl rfl)) (cwV 1 hts (gV kw236 kw237 kw238 kw2 kw239) rfl rfl rfl (by decide +kernel) ⟨by show (0 : Nat) + 1 ≤ 6; omega, by show 8 + (2 + 11) + 0 ≤ 137; omega⟩) ⟨blindC, va_recv (ci := 1) (q0 := 13 + 7 * p1.toNatClampNeg) hK hP rfl (wt_0 G S21 (md_k (by rw [← ex1]; exact c_4))), fun U hU hW => ⟨rfl, cPre_of hP hK hD hN hU hW⟩⟩ rfl rfl hl.1 rfl (lv_room (Nat.le_of_ble_eq_true rfl)) d_GS_compile_52 ⟨Nat.zero_le _, Nat.zero_le _⟩) hD hS hA (fun S52 H locs hw hP hD hS => ?_)
          obtain ⟨eS52, hI⟩ := hw
          refine lv_aload_n hx hb d_GS_compile_55 rfl (lv_at hl 2 rfl) ?_
          refine cq_v (va_runV (As := []) (rest := []) ⟨hx, hb, hml, hown, hts⟩ (c_GS_loosen l D G S52 _ N hI) (cwV 0 hts (gV kw123 kw124 kw624 kw1 kw125) rfl rfl rfl (by decide +kernel) ⟨by show (1 : Nat) + 1 ≤ 6; omega, by show 8 + (1 + 11) + 20 ≤ 137; omega⟩) ⟨blindC, va_recv (ci := 0) (q0 := 0) hK hP rfl (w_0 G S52), fun U hU hW => ⟨rfl, cPre_of hP hK hD hN hU hW⟩⟩ rfl rfl hl.1 rfl (lv_room (Nat.le_of_ble_eq_true rfl)) d_GS_compile_56 ⟨Nat.zero_le _, Nat.zero_le _⟩) hD hS hA (fun S56 H locs hw hP hD hS => ?_)
          obtain ⟨eS56, hI⟩ := hw
          refine lv_iload_n hx hb d_GS_compile_59 rfl (lv_at hl 0 rfl) ?_
          refine lv_if_ne (tgt := 66) hx hb d_GS_compile_60 (by decide) (fun c_60 => ?_) (fun c_60 => ?_)
          · refine lv_aload_n hx hb d_GS_compile_66 rfl (lv_at hl 1 rfl) ?_
            refine vp_callSi (W.runV (As := []) (rest := []) ⟨hx, hb, hml, hown, hts⟩ (c_MT_hasTwins l D G S56 p1.toNatClampNeg N hI (md_k (by rw [← ex1]; exact c_4))) (cwV 0 hts (gV kw232 kw233 kw234 kw2 kw235) rfl rfl rfl (by decide +kernel) ⟨by show (0 : Nat) + 1 ≤ 6; omega, by show 8 + (1 + 11) + 0 ≤ 137; omega⟩) ⟨blindR, va_recv (ci := 1) (q0 := 13 + 7 * p1.toNatClampNeg) hK hP rfl (wt_0 G S56 (md_k (by rw [← ex1]; exact c_4))), fun U hU hW => ⟨rfl, rPre_of hP hK hN hU hW⟩⟩ rfl rfl hl.1 rfl (lv_room (Nat.le_of_ble_eq_true rfl)) d_GS_compile_67 ⟨Nat.zero_le _, Nat.zero_le _⟩) (fun x67 ex67 => ?_)
            obtain ⟨ex67, bx67⟩ := ex67
            refine lv_if_eq (tgt := 78) hx hb d_GS_compile_70 (by decide) (fun c_70 => ?_) (fun c_70 => ?_)
            · refine lv_aload_n hx hb d_GS_compile_78 rfl (lv_at hl 1 rfl) ?_
              refine vp_callSi (W.runV (As := []) (rest := []) ⟨hx, hb, hml, hown, hts⟩ (c_MT_defined l D G S56 p1.toNatClampNeg N hI (md_k (by rw [← ex1]; exact c_4))) (cwV 0 hts (gV kw240 kw241 kw242 kw2 kw243) rfl rfl rfl (by decide +kernel) ⟨by show (0 : Nat) + 1 ≤ 6; omega, by show 8 + (1 + 11) + 0 ≤ 137; omega⟩) ⟨blindR, va_recv (ci := 1) (q0 := 13 + 7 * p1.toNatClampNeg) hK hP rfl (wt_0 G S56 (md_k (by rw [← ex1]; exact c_4))), fun U hU hW => ⟨rfl, rPre_of hP hK hN hU hW⟩⟩ rfl rfl hl.1 rfl (lv_room (Nat.le_of_ble_eq_true rfl)) d_GS_compile_79 ⟨Nat.zero_le _, Nat.zero_le _⟩) (fun x79 ex79 => ?_)
              refine vp_callSi (W.runS (As := [.int x79]) (rest := []) ⟨hx, hb, hml, hown, hts⟩ (c_JI_bitCount l x79) (va_cwS 1 hts (gSS kw244 kw245 kw8 kw246) rfl rfl rfl (by decide +kernel) ⟨by show (0 : Nat) + 1 ≤ 6; omega, by show 8 + (1 + 11) + 0 ≤ 137; omega⟩) ⟨blindP, fun U hU hW => ⟨rfl, NW_warm hW hN⟩⟩ rfl rfl hl.1 rfl (lv_room (Nat.le_of_ble_eq_true rfl)) d_GS_compile_82 ⟨Nat.zero_le _, Nat.zero_le _⟩) (fun x82 ex82 => ?_)
              exact W.iret (v := x82) hx hb hr (fun t ht hW => ⟨⟨x82, S56, rfl, ⟨by subst ex82; subst ex79; subst ex67; subst eS56; subst eS52; subst ex41; subst eS21; subst ex21; subst ex1; simp only [f_GS_compile, if_neg c_4, if_pos c_26, if_neg c_44, if_pos c_70], hI⟩, by rw [ht]; exact hP, hD⟩, hS.F ht⟩) hS.2.2 d_GS_compile_85
            · refine lv_bipush (v := (-3)) hx hb d_GS_compile_73 (by decide) ?_
              refine lv_goto (tgt := 85) hx hb d_GS_compile_75 (by decide) ?_
              exact W.iret (v := (-3)) hx hb hr (fun t ht hW => ⟨⟨(-3), S56, rfl, ⟨by subst ex67; subst eS56; subst eS52; subst ex41; subst eS21; subst ex21; subst ex1; simp only [f_GS_compile, if_neg c_4, if_pos c_26, if_neg c_44, if_neg c_70], hI⟩, by rw [ht]; exact hP, hD⟩, hS.F ht⟩) hS.2.2 d_GS_compile_85
          · exact absurd c_60 (by decide)
        · refine lv_iconst (v := 1) hx hb d_GS_compile_47 (by decide) ?_
          refine lv_goto (tgt := 52) hx hb d_GS_compile_48 (by decide) ?_
          refine cq_v (va_runV (As := [.int 1]) (rest := []) ⟨hx, hb, hml, hown, hts⟩ (c_MT_mark l D G S21 _ p1.toNatClampNeg 1 N hI (md_k (by rw [← ex1]; exact c_4)) (Or.inr rfl)) (cwV 1 hts (gV kw236 kw237 kw238 kw2 kw239) rfl rfl rfl (by decide +kernel) ⟨by show (0 : Nat) + 1 ≤ 6; omega, by show 8 + (2 + 11) + 0 ≤ 137; omega⟩) ⟨blindC, va_recv (ci := 1) (q0 := 13 + 7 * p1.toNatClampNeg) hK hP rfl (wt_0 G S21 (md_k (by rw [← ex1]; exact c_4))), fun U hU hW => ⟨rfl, cPre_of hP hK hD hN hU hW⟩⟩ rfl rfl hl.1 rfl (lv_room (Nat.le_of_ble_eq_true rfl)) d_GS_compile_52 ⟨Nat.zero_le _, Nat.zero_le _⟩) hD hS hA (fun S52 H locs hw hP hD hS => ?_)
          obtain ⟨eS52, hI⟩ := hw
          refine lv_aload_n hx hb d_GS_compile_55 rfl (lv_at hl 2 rfl) ?_
          refine cq_v (va_runV (As := []) (rest := []) ⟨hx, hb, hml, hown, hts⟩ (c_GS_loosen l D G S52 _ N hI) (cwV 0 hts (gV kw123 kw124 kw624 kw1 kw125) rfl rfl rfl (by decide +kernel) ⟨by show (1 : Nat) + 1 ≤ 6; omega, by show 8 + (1 + 11) + 20 ≤ 137; omega⟩) ⟨blindC, va_recv (ci := 0) (q0 := 0) hK hP rfl (w_0 G S52), fun U hU hW => ⟨rfl, cPre_of hP hK hD hN hU hW⟩⟩ rfl rfl hl.1 rfl (lv_room (Nat.le_of_ble_eq_true rfl)) d_GS_compile_56 ⟨Nat.zero_le _, Nat.zero_le _⟩) hD hS hA (fun S56 H locs hw hP hD hS => ?_)
          obtain ⟨eS56, hI⟩ := hw
          refine lv_iload_n hx hb d_GS_compile_59 rfl (lv_at hl 0 rfl) ?_
          refine lv_if_ne (tgt := 66) hx hb d_GS_compile_60 (by decide) (fun c_60 => ?_) (fun c_60 => ?_)
          · refine lv_aload_n hx hb d_GS_compile_66 rfl (lv_at hl 1 rfl) ?_
            refine vp_callSi (W.runV (As := []) (rest := []) ⟨hx, hb, hml, hown, hts⟩ (c_MT_hasTwins l D G S56 p1.toNatClampNeg N hI (md_k (by rw [← ex1]; exact c_4))) (cwV 0 hts (gV kw232 kw233 kw234 kw2 kw235) rfl rfl rfl (by decide +kernel) ⟨by show (0 : Nat) + 1 ≤ 6; omega, by show 8 + (1 + 11) + 0 ≤ 137; omega⟩) ⟨blindR, va_recv (ci := 1) (q0 := 13 + 7 * p1.toNatClampNeg) hK hP rfl (wt_0 G S56 (md_k (by rw [← ex1]; exact c_4))), fun U hU hW => ⟨rfl, rPre_of hP hK hN hU hW⟩⟩ rfl rfl hl.1 rfl (lv_room (Nat.le_of_ble_eq_true rfl)) d_GS_compile_67 ⟨Nat.zero_le _, Nat.zero_le _⟩) (fun x67 ex67 => ?_)
            obtain ⟨ex67, bx67⟩ := ex67
            refine lv_if_eq (tgt := 78) hx hb d_GS_compile_70 (by decide) (fun c_70 => ?_) (fun c_70 => ?_)
            · refine lv_aload_n hx hb d_GS_compile_78 rfl (lv_at hl 1 rfl) ?_
              refine vp_callSi (W.runV (As := []) (rest := []) ⟨hx, hb, hml, hown, hts⟩ (c_MT_defined l D G S56 p1.toNatClampNeg N hI (md_k (by rw [← ex1]; exact c_4))) (cwV 0 hts (gV kw240 kw241 kw242 kw2 kw243) rfl rfl rfl (by decide +kernel) ⟨by show (0 : Nat) + 1 ≤ 6; omega, by show 8 + (1 + 11) + 0 ≤ 137; omega⟩) ⟨blindR, va_recv (ci := 1) (q0 := 13 + 7 * p1.toNatClampNeg) hK hP rfl (wt_0 G S56 (md_k (by rw [← ex1]; exact c_4))), fun U hU hW => ⟨rfl, rPre_of hP hK hN hU hW⟩⟩ rfl rfl hl.1 rfl (lv_room (Nat.le_of_ble_eq_true rfl)) d_GS_compile_79 ⟨Nat.zero_le _, Nat.zero_le _⟩) (fun x79 ex79 => ?_)
              refine vp_callSi (W.runS (As := [.int x79]) (rest := []) ⟨hx, hb, hml, hown, hts⟩ (c_JI_bitCount l x79) (va_cwS 1 hts (gSS kw244 kw245 kw8 kw246) rfl rfl rfl (by decide +kernel) ⟨by show (0 : Nat) + 1 ≤ 6; omega, by show 8 + (1 + 11) + 0 ≤ 137; omega⟩) ⟨blindP, fun U hU hW => ⟨rfl, NW_warm hW hN⟩⟩ rfl rfl hl.1 rfl (lv_room (Nat.le_of_ble_eq_true rfl)) d_GS_compile_82 ⟨Nat.zero_le _, Nat.zero_le _⟩) (fun x82 ex82 => ?_)
              exact W.iret (v := x82) hx hb hr (fun t ht hW => ⟨⟨x82, S56, rfl, ⟨by subst ex82; subst ex79; subst ex67; subst eS56; subst eS52; subst ex41; subst eS21; subst ex21; subst ex1; simp only [f_GS_compile, if_neg c_4, if_pos c_26, if_pos c_44, if_pos c_70], hI⟩, by rw [ht]; exact hP, hD⟩, hS.F ht⟩) hS.2.2 d_GS_compile_85
            · refine lv_bipush (v := (-3)) hx hb d_GS_compile_73 (by decide) ?_
              refine lv_goto (tgt := 85) hx hb d_GS_compile_75 (by decide) ?_
              exact W.iret (v := (-3)) hx hb hr (fun t ht hW => ⟨⟨(-3), S56, rfl, ⟨by subst ex67; subst eS56; subst eS52; subst ex41; subst eS21; subst ex21; subst ex1; simp only [f_GS_compile, if_neg c_4, if_pos c_26, if_pos c_44, if_neg c_70], hI⟩, by rw [ht]; exact hP, hD⟩, hS.F ht⟩) hS.2.2 d_GS_compile_85
          · exact absurd c_60 (by decide)
  · refine lv_iconst (v := (-1)) hx hb d_GS_compile_7 (by decide) ?_
    exact W.iret (v := (-1)) hx hb hr (fun t ht hW => ⟨⟨(-1), S, rfl, ⟨by subst ex1; simp only [f_GS_compile, if_pos c_4], hI⟩, by rw [ht]; exact hP, hD⟩, hS.F ht⟩) hS.2.2 d_GS_compile_8
set_option maxHeartbeats 4000000 in
set_option maxRecDepth 100000 in
theorem c_GS_fault (l : Launch) (D : va_G) (G : GP) (S : CS) (sz : Nat) (p1 : Int32) (N : Nat) (hI : IC N S) : Met l y_GS_fault ws_GS_fault ({ frames := 6, cells := 0, slots := 0, locals := 137 }) (va_Pc [.ref (aA G 0), .int p1] (cPre D G S sz)) (va_Qi (fun (r : Int32) (S' : CS) => (r, S') = f_GS_fault S p1 ∧ IC N S') (wB D G (va_A (wC G S) sz)) (va_A (wC G S) sz)) 0 0 (va_A (wC G S) sz) := by
  refine Met.ofW (cc := b_GS_fault) (maxL := 2) (ret := (some .int)) (by decide) rfl ?_
  intro p e s m args below meth c s₁ B hml hv
  obtain ⟨rfl, hsz, hP, hK, hD0, hN⟩ := hv
  have hx := B.exec
  have hb := B.bytes
  have hr := B.returns
  have hts := atoms_spec (ws := ws_GS_fault) B.pre
  have hown : s.vm.findClass R_GS = some m.cls := findClass_of_methodNamed B.named
  have hlocks := B.notSynchronized
  subst hsz
  have hD := hD0.self (sz := s.heap.size)
  generalize hAe : va_A (wC G S) s.heap.size = A at hD ⊢
  have hA : ∀ q : Nat, s.heap.size ≤ q → A q := fun q h => by rw [← hAe]; exact Or.inr h
  have hS : va_S A s.heap s.heap [] := va_S.rf
  have hl := lv_entry ([.ref (aA G 0), .int p1]) (n := 2) (Nat.le_of_ble_eq_true rfl)
  rw [lg_entry_eq]
  generalize (lg_sl ([.ref (aA G 0), .int p1]) ++ List.replicate (2 - (lg_sl ([.ref (aA G 0), .int p1])).length) Slot.unset).toArray = ls at hl ⊢
  have hl : lv_has ls 2 [(0, .ref (aA G 0)), (1, .int p1)] := hl
  refine lv_iload_n hx hb d_GS_fault_0 rfl (lv_at hl 1 rfl) ?_
  refine vp_callSi (W.runS (As := [.int p1]) (rest := []) ⟨hx, hb, hml, hown, hts⟩ (c_GS_isModule l p1) (cwS 1 hts (gS kw116 kw117 kw1 kw118) rfl rfl rfl (by decide +kernel) ⟨by show (0 : Nat) + 1 ≤ 6; omega, by show 8 + (1 + 11) + 0 ≤ 137; omega⟩) ⟨blindP, fun U hU hW => ⟨rfl, NW_warm hW hN⟩⟩ rfl rfl hl.1 rfl (lv_room (Nat.le_of_ble_eq_true rfl)) d_GS_fault_1 ⟨Nat.zero_le _, Nat.zero_le _⟩) (fun x1 ex1 => ?_)
  obtain ⟨ex1, bx1⟩ := ex1
  refine lv_if_eq (tgt := 23) hx hb d_GS_fault_4 (by decide) (fun c_4 => ?_) (fun c_4 => ?_)
  · refine lv_iconst (v := (-1)) hx hb d_GS_fault_23 (by decide) ?_
    exact W.iret (v := (-1)) hx hb hr (fun t ht hW => ⟨⟨(-1), S, rfl, ⟨by subst ex1; simp only [f_GS_fault, if_pos c_4], hI⟩, by rw [ht]; exact hP, hD⟩, hS.F ht⟩) hS.2.2 d_GS_fault_24
  · refine lv_aload_n hx hb d_GS_fault_7 rfl (lv_at hl 0 rfl) ?_
    refine va_get (D := D) (ci := 0) (v := .ref (aA G 2)) (C := R_GS) (T := T_GS) (N := 6) hx hb hts (fun w h => List.mem_cons_of_mem _ (in_GS w h)) hown hK hP 0 (w_0 G S) rfl 1 (by decide) (hts _ (List.mem_cons_of_mem _ kw101)) (fun _ h9 => h9) rfl d_GS_fault_8 ?_
    refine lv_aload_n hx hb d_GS_fault_11 rfl (lv_at hl 0 rfl) ?_
    refine va_get (D := D) (ci := 0) (v := .ref (aA G 1)) (C := R_GS) (T := T_GS) (N := 6) hx hb hts (fun w h => List.mem_cons_of_mem _ (in_GS w h)) hown hK hP 0 (w_0 G S) rfl 0 (by decide) (hts _ (List.mem_cons_of_mem _ kw100)) (fun _ h9 => h9) rfl d_GS_fault_12 ?_
    refine lv_iload_n hx hb d_GS_fault_15 rfl (lv_at hl 1 rfl) ?_
    refine md_ald (D := D) hx hb hK hP (md_in (by rw [← ex1]; exact c_4)) d_GS_fault_16 ?_
    refine cq_i (va_runV (As := [.ref (tA G p1.toNatClampNeg 0)]) (rest := []) ⟨hx, hb, hml, hown, hts⟩ (c_RD_faultOf l D G S _ p1.toNatClampNeg N hI (md_k (by rw [← ex1]; exact c_4))) (cwV 1 hts (gV kw150 kw151 kw152 kw3 kw153) rfl rfl rfl (by decide +kernel) ⟨by show (5 : Nat) + 1 ≤ 6; omega, by show 8 + (4 + 11) + 114 ≤ 137; omega⟩) ⟨blindC, va_recv (ci := 2) (q0 := 2) hK hP rfl (w_2 G S), fun U hU hW => ⟨rfl, cPre_of hP hK hD hN hU hW⟩⟩ rfl rfl hl.1 rfl (lv_room (Nat.le_of_ble_eq_true rfl)) d_GS_fault_17 ⟨Nat.zero_le _, Nat.zero_le _⟩) hD hS hA (fun x17 S17 H locs hw hP hD hS => ?_)
    obtain ⟨hw, hI⟩ := hw
    have ex17 : x17 = (f_RD_faultOf S p1.toNatClampNeg).1 := congrArg Prod.fst hw
    have eS17 : S17 = (f_RD_faultOf S p1.toNatClampNeg).2 := congrArg Prod.snd hw
    clear hw
    refine lv_goto (tgt := 24) hx hb d_GS_fault_20 (by decide) ?_
    exact W.iret (v := x17) hx hb hr (fun t ht hW => ⟨⟨x17, S17, rfl, ⟨by subst eS17; subst ex17; subst ex1; simp only [f_GS_fault, if_neg c_4], hI⟩, by rw [ht]; exact hP, hD⟩, hS.F ht⟩) hS.2.2 d_GS_fault_24
set_option maxHeartbeats 4000000 in
set_option maxRecDepth 100000 in
theorem c_GS_link (l : Launch) (D : va_G) (G : GP) (S : CS) (sz : Nat) (N : Nat) (hI : IC N S) : Met l y_GS_link ws_GS_link ({ frames := 4, cells := 0, slots := 0, locals := 85 }) (va_Pc [.ref (aA G 0)] (cPre D G S sz)) (va_Qi (fun (r : Int32) (S' : CS) => (r, S') = f_GS_link S ∧ IC N S') (wB D G (va_A (wC G S) sz)) (va_A (wC G S) sz)) 0 0 (va_A (wC G S) sz) := by
  refine Met.ofW (cc := b_GS_link) (maxL := 2) (ret := (some .int)) (by decide) rfl ?_
  intro p e s m args below meth c s₁ B hml hv
  obtain ⟨rfl, hsz, hP, hK, hD0, hN⟩ := hv
  have hx := B.exec
  have hb := B.bytes
  have hr := B.returns
  have hts := atoms_spec (ws := ws_GS_link) B.pre
  have hown : s.vm.findClass R_GS = some m.cls := findClass_of_methodNamed B.named
  have hlocks := B.notSynchronized
  subst hsz
  have hD := hD0.self (sz := s.heap.size)
  generalize hAe : va_A (wC G S) s.heap.size = A at hD ⊢
  have hA : ∀ q : Nat, s.heap.size ≤ q → A q := fun q h => by rw [← hAe]; exact Or.inr h
  have hS : va_S A s.heap s.heap [] := va_S.rf
  have hl := lv_entry ([.ref (aA G 0)]) (n := 2) (Nat.le_of_ble_eq_true rfl)
  rw [lg_entry_eq]
  generalize (lg_sl ([.ref (aA G 0)]) ++ List.replicate (2 - (lg_sl ([.ref (aA G 0)])).length) Slot.unset).toArray = ls at hl ⊢
  have hl : lv_has ls 2 [(0, .ref (aA G 0))] := hl
  refine lv_iconst (v := 0) hx hb d_GS_link_0 (by decide) ?_
  refine lv_istore_n (lv' := [(1, .int 0), (0, .ref (aA G 0))]) hx hb d_GS_link_1 rfl hl (by decide) rfl (fun ls hl => ?_)
  have loop : ∀ (n : Nat) (S1 : CS) (y1 : Int32) (j : Nat) (H : Heap) (locs : List Loc) (ls : Array Slot), (y1 = nI j ∧ j ≤ 3 ∧ j + n = 4) → f_GS_link S = q_GS_link_2 n S1 y1 → va_P D vwCl (wC G S1) H → va_D A (wC G S1) → va_S A s.heap H locs → IC N S1 → lv_has ls 2 [(1, .int y1), (0, .ref (aA G 0))] → W p l e (headSpec ws_GS_link ({ frames := 4, cells := 0, slots := 0, locals := 85 })).room s m ([.ref (aA G 0)] : List Value).toArray below meth c H locs 0 0 (MQ below (va_Qi (fun (r : Int32) (S' : CS) => (r, S') = f_GS_link S ∧ IC N S') (wB D G A) A) ([.ref (aA G 0)] : List Value).toArray s 0 0 A) (F0 m 2 ls []) := by
    intro n
    induction n with
    | zero => intro S1 y1 j H locs ls hi hF hP hD hS hI hl; exact absurd hi (by rintro ⟨-, h1, h2⟩; omega)
    | succ n ih =>
      intro S1 y1 j H locs ls hi hF hP hD hS hI hl
      obtain ⟨hj, hjB, hjn⟩ := hi
      refine lv_iload_n hx hb d_GS_link_2 rfl (lv_at hl 0 rfl) ?_
      refine lv_iconst (v := 3) hx hb d_GS_link_3 (by decide) ?_
      refine lv_icmp_ge (tgt := 27) hx hb d_GS_link_4 (by decide) (fun c_4 => ?_) (fun c_4 => ?_)
      · refine lv_aload_n hx hb d_GS_link_27 rfl (lv_at hl 1 rfl) ?_
        refine cq_v (va_runV (As := []) (rest := []) ⟨hx, hb, hml, hown, hts⟩ (c_GS_loosen l D G S1 _ N hI) (cwV 0 hts (gV kw123 kw124 kw624 kw1 kw125) rfl rfl rfl (by decide +kernel) ⟨by show (1 : Nat) + 1 ≤ 4; omega, by show 8 + (1 + 11) + 20 ≤ 85; omega⟩) ⟨blindC, va_recv (ci := 0) (q0 := 0) hK hP rfl (w_0 G S1), fun U hU hW => ⟨rfl, cPre_of hP hK hD hN hU hW⟩⟩ rfl rfl hl.1 rfl (lv_room (Nat.le_of_ble_eq_true rfl)) d_GS_link_28 ⟨Nat.zero_le _, Nat.zero_le _⟩) hD hS hA (fun S28 H locs hw hP hD hS => ?_)
        obtain ⟨eS28, hI⟩ := hw
        refine lv_aload_n hx hb d_GS_link_31 rfl (lv_at hl 1 rfl) ?_
        refine va_get (D := D) (ci := 0) (v := .ref (aA G 4)) (C := R_GS) (T := T_GS) (N := 6) hx hb hts (fun w h => List.mem_cons_of_mem _ (in_GS w h)) hown hK hP 0 (w_0 G S28) rfl 2 (by decide) (hts _ (List.mem_cons_of_mem _ kw102)) (fun _ h9 => h9) rfl d_GS_link_32 ?_
        refine lv_aload_n hx hb d_GS_link_35 rfl (lv_at hl 1 rfl) ?_
        refine va_get (D := D) (ci := 0) (v := .ref (aA G 1)) (C := R_GS) (T := T_GS) (N := 6) hx hb hts (fun w h => List.mem_cons_of_mem _ (in_GS w h)) hown hK hP 0 (w_0 G S28) rfl 0 (by decide) (hts _ (List.mem_cons_of_mem _ kw100)) (fun _ h9 => h9) rfl d_GS_link_36 ?_
        refine cq_i (va_runV (As := [.ref (aA G 1)]) (rest := []) ⟨hx, hb, hml, hown, hts⟩ (c_PR_join l D G S28 _ N hI) (cwV 1 hts (gV kw262 kw263 kw264 kw4 kw265) rfl rfl rfl (by decide +kernel) ⟨by show (3 : Nat) + 1 ≤ 4; omega, by show 8 + (3 + 11) + 63 ≤ 85; omega⟩) ⟨blindC, va_recv (ci := 3) (q0 := 4) hK hP rfl (w_4 G S28), fun U hU hW => ⟨rfl, cPre_of hP hK hD hN hU hW⟩⟩ rfl rfl hl.1 rfl (lv_room (Nat.le_of_ble_eq_true rfl)) d_GS_link_39 ⟨Nat.zero_le _, Nat.zero_le _⟩) hD hS hA (fun x39 S39 H locs hw hP hD hS => ?_)
        obtain ⟨hw, hI⟩ := hw
        have ex39 : x39 = (f_PR_join S28).1 := congrArg Prod.fst hw
        have eS39 : S39 = (f_PR_join S28).2 := congrArg Prod.snd hw
        clear hw
        refine lv_istore_n (lv' := [(1, .int x39), (0, .ref (aA G 0))]) hx hb d_GS_link_42 rfl hl (by decide) rfl (fun ls hl => ?_)
        refine lv_aload_n hx hb d_GS_link_43 rfl (lv_at hl 1 rfl) ?_
        refine lv_iload_n hx hb d_GS_link_44 rfl (lv_at hl 0 rfl) ?_
        refine lv_if_lt (tgt := 52) hx hb d_GS_link_45 (by decide) (fun c_45 => ?_) (fun c_45 => ?_)
        · refine lv_iconst (v := 0) hx hb d_GS_link_52 (by decide) ?_
          refine va_putE (D := D) (ci := 0) (v := .int 0) (ty := .boolean) (C := R_GS) (T := T_GS) (N := 6) hx hb hts (fun w h => List.mem_cons_of_mem _ (in_GS w h)) t_GS t_GS_ok n_GS hown hK hP hD hS 0 (w_0 G S39) rfl 5 (by decide) (hts _ (List.mem_cons_of_mem _ kw105)) (fun _ h9 => h9) rfl (by decide +kernel) rfl rfl (Nat.le_of_ble_eq_true rfl) (wst_0_5 G S39 0) d_GS_link_53 (fun H locs hP hD hS => ?_)
          obtain ⟨S53, eS53⟩ : ∃ y : CS, y = stR S39 0 5 0 := ⟨_, rfl⟩
          rw [← eS53] at hP hD
          have hI : IC N S53 := by rw [eS53]; exact IC_R hI _ _ _ (by decide)
          refine lv_iload_n hx hb d_GS_link_56 rfl (lv_at hl 0 rfl) ?_
          exact W.iret (v := x39) hx hb hr (fun t ht hW => ⟨⟨x39, S53, rfl, ⟨by rw [hF]; subst eS53; subst eS39; subst ex39; subst eS28; simp only [q_GS_link_2, if_pos c_4, if_pos c_45], hI⟩, by rw [ht]; exact hP, hD⟩, hS.F ht⟩) hS.2.2 d_GS_link_57
        · refine lv_iconst (v := 1) hx hb d_GS_link_48 (by decide) ?_
          refine lv_goto (tgt := 53) hx hb d_GS_link_49 (by decide) ?_
          refine va_putE (D := D) (ci := 0) (v := .int 1) (ty := .boolean) (C := R_GS) (T := T_GS) (N := 6) hx hb hts (fun w h => List.mem_cons_of_mem _ (in_GS w h)) t_GS t_GS_ok n_GS hown hK hP hD hS 0 (w_0 G S39) rfl 5 (by decide) (hts _ (List.mem_cons_of_mem _ kw105)) (fun _ h9 => h9) rfl (by decide +kernel) rfl rfl (Nat.le_of_ble_eq_true rfl) (wst_0_5 G S39 1) d_GS_link_53 (fun H locs hP hD hS => ?_)
          obtain ⟨S53, eS53⟩ : ∃ y : CS, y = stR S39 0 5 1 := ⟨_, rfl⟩
          rw [← eS53] at hP hD
          have hI : IC N S53 := by rw [eS53]; exact IC_R hI _ _ _ (by decide)
          refine lv_iload_n hx hb d_GS_link_56 rfl (lv_at hl 0 rfl) ?_
          exact W.iret (v := x39) hx hb hr (fun t ht hW => ⟨⟨x39, S53, rfl, ⟨by rw [hF]; subst eS53; subst eS39; subst ex39; subst eS28; simp only [q_GS_link_2, if_pos c_4, if_neg c_45], hI⟩, by rw [ht]; exact hP, hD⟩, hS.F ht⟩) hS.2.2 d_GS_link_57
      · have hlt : j < 3 := Nat.lt_of_not_le (fun q => c_4 (by rw [hj]; exact nI_le (a := 3) q (by omega)))
        refine lv_aload_n hx hb d_GS_link_7 rfl (lv_at hl 1 rfl) ?_
        refine va_get (D := D) (ci := 0) (v := .ref (aA G 1)) (C := R_GS) (T := T_GS) (N := 6) hx hb hts (fun w h => List.mem_cons_of_mem _ (in_GS w h)) hown hK hP 0 (w_0 G S1) rfl 0 (by decide) (hts _ (List.mem_cons_of_mem _ kw100)) (fun _ h9 => h9) rfl d_GS_link_8 ?_
        refine lv_iload_n hx hb d_GS_link_11 rfl (lv_at hl 0 rfl) ?_
        refine md_ald (D := D) hx hb hK hP (by rw [hj]; exact vp_in_nI hlt (by omega)) d_GS_link_12 ?_
        refine vp_callSi (W.runV (As := []) (rest := []) ⟨hx, hb, hml, hown, hts⟩ (c_MT_isCompiled l D G S1 y1.toNatClampNeg N hI (by rw [hj, nI_clamp (by omega)]; exact hlt)) (cwV 0 hts (gV kw258 kw259 kw260 kw2 kw261) rfl rfl rfl (by decide +kernel) ⟨by show (0 : Nat) + 1 ≤ 4; omega, by show 8 + (1 + 11) + 0 ≤ 85; omega⟩) ⟨blindR, va_recv (ci := 1) (q0 := 13 + 7 * y1.toNatClampNeg) hK hP rfl (wt_0 G S1 (by rw [hj, nI_clamp (by omega)]; exact hlt)), fun U hU hW => ⟨rfl, rPre_of hP hK hN hU hW⟩⟩ rfl rfl hl.1 rfl (lv_room (Nat.le_of_ble_eq_true rfl)) d_GS_link_13 ⟨Nat.zero_le _, Nat.zero_le _⟩) (fun x13 ex13 => ?_)
        obtain ⟨ex13, bx13⟩ := ex13
        refine lv_if_ne (tgt := 21) hx hb d_GS_link_16 (by decide) (fun c_16 => ?_) (fun c_16 => ?_)
        · obtain ⟨x21, ex21⟩ : ∃ y : Int32, y = y1 + 1 := ⟨_, rfl⟩
          refine lv_iinc (v := x21) (lv' := [(1, .int x21), (0, .ref (aA G 0))]) hx hb d_GS_link_21 hl (k := 0) rfl (by rw [ex21]; rfl) (by decide) rfl (fun ls hl => ?_)
          refine lv_goto (tgt := 2) hx hb d_GS_link_24 (by decide) ?_
          exact ih S1 x21 (j + 1) _ _ ls ⟨by rw [ex21, hj]; exact nI_1 j, by omega, by omega⟩ (by rw [hF]; subst ex21; subst ex13; simp only [q_GS_link_2, if_neg c_4, if_neg c_16]) hP hD hS hI (lv_sub hl [0, 1] rfl)
        · refine lv_iconst (v := (-1)) hx hb d_GS_link_19 (by decide) ?_
          exact W.iret (v := (-1)) hx hb hr (fun t ht hW => ⟨⟨(-1), S1, rfl, ⟨by rw [hF]; subst ex13; simp only [q_GS_link_2, if_neg c_4, if_pos c_16], hI⟩, by rw [ht]; exact hP, hD⟩, hS.F ht⟩) hS.2.2 d_GS_link_20
  exact loop (fz 4) S 0 0 _ _ ls ⟨nI_0.symm, by omega, by rw [fz_eq]⟩ (by simp only [f_GS_link]) hP hD hS hI hl
set_option maxHeartbeats 4000000 in
set_option maxRecDepth 100000 in
theorem c_GS_start (l : Launch) (D : va_G) (G : GP) (S : CS) (sz : Nat) (N : Nat) (hI : IC N S) : Met l y_GS_start ws_GS_start ({ frames := 5, cells := 0, slots := 0, locals := 109 }) (va_Pc [.ref (aA G 0)] (cPre D G S sz)) (va_Qi (fun (r : Int32) (S' : CS) => (r, S') = f_GS_start S ∧ IC N S') (wB D G (va_A (wC G S) sz)) (va_A (wC G S) sz)) 0 0 (va_A (wC G S) sz) := by
  refine Met.ofW (cc := b_GS_start) (maxL := 1) (ret := (some .int)) (by decide) rfl ?_
  intro p e s m args below meth c s₁ B hml hv
  obtain ⟨rfl, hsz, hP, hK, hD0, hN⟩ := hv
  have hx := B.exec
  have hb := B.bytes
  have hr := B.returns
  have hts := atoms_spec (ws := ws_GS_start) B.pre
  have hown : s.vm.findClass R_GS = some m.cls := findClass_of_methodNamed B.named
  have hlocks := B.notSynchronized
  subst hsz
  have hD := hD0.self (sz := s.heap.size)
  generalize hAe : va_A (wC G S) s.heap.size = A at hD ⊢
  have hA : ∀ q : Nat, s.heap.size ≤ q → A q := fun q h => by rw [← hAe]; exact Or.inr h
  have hS : va_S A s.heap s.heap [] := va_S.rf
  have hl := lv_entry ([.ref (aA G 0)]) (n := 1) (Nat.le_of_ble_eq_true rfl)
  rw [lg_entry_eq]
  generalize (lg_sl ([.ref (aA G 0)]) ++ List.replicate (1 - (lg_sl ([.ref (aA G 0)])).length) Slot.unset).toArray = ls at hl ⊢
  have hl : lv_has ls 1 [(0, .ref (aA G 0))] := hl
  refine lv_aload_n hx hb d_GS_start_0 rfl (lv_at hl 0 rfl) ?_
  refine va_get (D := D) (ci := 0) (v := .int (S.2 0 5)) (C := R_GS) (T := T_GS) (N := 6) hx hb hts (fun w h => List.mem_cons_of_mem _ (in_GS w h)) hown hK hP 0 (w_0 G S) rfl 5 (by decide) (hts _ (List.mem_cons_of_mem _ kw105)) (fun _ h9 => h9) rfl d_GS_start_1 ?_
  refine lv_if_eq (tgt := 17) hx hb d_GS_start_4 (by decide) (fun c_4 => ?_) (fun c_4 => ?_)
  · refine lv_iconst (v := (-1)) hx hb d_GS_start_17 (by decide) ?_
    exact W.iret (v := (-1)) hx hb hr (fun t ht hW => ⟨⟨(-1), S, rfl, ⟨by simp only [f_GS_start, if_pos c_4], hI⟩, by rw [ht]; exact hP, hD⟩, hS.F ht⟩) hS.2.2 d_GS_start_18
  · refine lv_aload_n hx hb d_GS_start_7 rfl (lv_at hl 0 rfl) ?_
    refine va_get (D := D) (ci := 0) (v := .ref (aA G 9)) (C := R_GS) (T := T_GS) (N := 6) hx hb hts (fun w h => List.mem_cons_of_mem _ (in_GS w h)) hown hK hP 0 (w_0 G S) rfl 4 (by decide) (hts _ (List.mem_cons_of_mem _ kw104)) (fun _ h9 => h9) rfl d_GS_start_8 ?_
    refine vp_callSi (W.runV (As := []) (rest := []) ⟨hx, hb, hml, hown, hts⟩ (c_MA_isGoing l D G S N hI) (cwV 0 hts (gV kw291 kw292 kw293 kw6 kw294) rfl rfl rfl (by decide +kernel) ⟨by show (0 : Nat) + 1 ≤ 5; omega, by show 8 + (1 + 11) + 0 ≤ 109; omega⟩) ⟨blindR, va_recv (ci := 5) (q0 := 9) hK hP rfl (w_9 G S), fun U hU hW => ⟨rfl, rPre_of hP hK hN hU hW⟩⟩ rfl rfl hl.1 rfl (lv_room (Nat.le_of_ble_eq_true rfl)) d_GS_start_11 ⟨Nat.zero_le _, Nat.zero_le _⟩) (fun x11 ex11 => ?_)
    obtain ⟨ex11, bx11⟩ := ex11
    refine lv_if_eq (tgt := 19) hx hb d_GS_start_14 (by decide) (fun c_14 => ?_) (fun c_14 => ?_)
    · refine lv_aload_n hx hb d_GS_start_19 rfl (lv_at hl 0 rfl) ?_
      refine va_get (D := D) (ci := 0) (v := .ref (aA G 9)) (C := R_GS) (T := T_GS) (N := 6) hx hb hts (fun w h => List.mem_cons_of_mem _ (in_GS w h)) hown hK hP 0 (w_0 G S) rfl 4 (by decide) (hts _ (List.mem_cons_of_mem _ kw104)) (fun _ h9 => h9) rfl d_GS_start_20 ?_
      refine lv_aload_n hx hb d_GS_start_23 rfl (lv_at hl 0 rfl) ?_
      refine va_get (D := D) (ci := 0) (v := .ref (aA G 4)) (C := R_GS) (T := T_GS) (N := 6) hx hb hts (fun w h => List.mem_cons_of_mem _ (in_GS w h)) hown hK hP 0 (w_0 G S) rfl 2 (by decide) (hts _ (List.mem_cons_of_mem _ kw102)) (fun _ h9 => h9) rfl d_GS_start_24 ?_
      refine cq_v (va_runV (As := [.ref (aA G 4)]) (rest := []) ⟨hx, hb, hml, hown, hts⟩ (c_MA_begin l D G S _ N hI) (cwV 1 hts (gV kw295 kw296 kw297 kw6 kw298) rfl rfl rfl (by decide +kernel) ⟨by show (4 : Nat) + 1 ≤ 5; omega, by show 8 + (2 + 11) + 88 ≤ 109; omega⟩) ⟨blindC, va_recv (ci := 5) (q0 := 9) hK hP rfl (w_9 G S), fun U hU hW => ⟨rfl, cPre_of hP hK hD hN hU hW⟩⟩ rfl rfl hl.1 rfl (lv_room (Nat.le_of_ble_eq_true rfl)) d_GS_start_27 ⟨Nat.zero_le _, Nat.zero_le _⟩) hD hS hA (fun S27 H locs hw hP hD hS => ?_)
      obtain ⟨eS27, hI⟩ := hw
      refine lv_aload_n hx hb d_GS_start_30 rfl (lv_at hl 0 rfl) ?_
      refine va_get (D := D) (ci := 0) (v := .ref (aA G 9)) (C := R_GS) (T := T_GS) (N := 6) hx hb hts (fun w h => List.mem_cons_of_mem _ (in_GS w h)) hown hK hP 0 (w_0 G S27) rfl 4 (by decide) (hts _ (List.mem_cons_of_mem _ kw104)) (fun _ h9 => h9) rfl d_GS_start_31 ?_
      refine vp_callSi (W.runV (As := []) (rest := []) ⟨hx, hb, hml, hown, hts⟩ (c_MA_isGoing l D G S27 N hI) (cwV 0 hts (gV kw291 kw292 kw293 kw6 kw294) rfl rfl rfl (by decide +kernel) ⟨by show (0 : Nat) + 1 ≤ 5; omega, by show 8 + (1 + 11) + 0 ≤ 109; omega⟩) ⟨blindR, va_recv (ci := 5) (q0 := 9) hK hP rfl (w_9 G S27), fun U hU hW => ⟨rfl, rPre_of hP hK hN hU hW⟩⟩ rfl rfl hl.1 rfl (lv_room (Nat.le_of_ble_eq_true rfl)) d_GS_start_34 ⟨Nat.zero_le _, Nat.zero_le _⟩) (fun x34 ex34 => ?_)
      obtain ⟨ex34, bx34⟩ := ex34
      refine lv_if_eq (tgt := 44) hx hb d_GS_start_37 (by decide) (fun c_37 => ?_) (fun c_37 => ?_)
      · refine lv_iconst (v := 0) hx hb d_GS_start_44 (by decide) ?_
        exact W.iret (v := 0) hx hb hr (fun t ht hW => ⟨⟨0, S27, rfl, ⟨by subst ex34; subst eS27; subst ex11; simp only [f_GS_start, if_neg c_4, if_pos c_14, if_pos c_37], hI⟩, by rw [ht]; exact hP, hD⟩, hS.F ht⟩) hS.2.2 d_GS_start_45
      · refine lv_iconst (v := 1) hx hb d_GS_start_40 (by decide) ?_
        refine lv_goto (tgt := 45) hx hb d_GS_start_41 (by decide) ?_
        exact W.iret (v := 1) hx hb hr (fun t ht hW => ⟨⟨1, S27, rfl, ⟨by subst ex34; subst eS27; subst ex11; simp only [f_GS_start, if_neg c_4, if_pos c_14, if_neg c_37], hI⟩, by rw [ht]; exact hP, hD⟩, hS.F ht⟩) hS.2.2 d_GS_start_45
    · refine lv_iconst (v := (-1)) hx hb d_GS_start_17 (by decide) ?_
      exact W.iret (v := (-1)) hx hb hr (fun t ht hW => ⟨⟨(-1), S, rfl, ⟨by subst ex11; simp only [f_GS_start, if_neg c_4, if_neg c_14], hI⟩, by rw [ht]; exact hP, hD⟩, hS.F ht⟩) hS.2.2 d_GS_start_18
set_option maxHeartbeats 4000000 in
set_option maxRecDepth 100000 in
theorem c_GS_run (l : Launch) (D : va_G) (G : GP) (S : CS) (sz : Nat) (p1 : Int32) (N : Nat) (hI : IC N S) (hNB : N < 999990) : Met l y_GS_run ws_GS_run ({ frames := 22, cells := 0, slots := 0, locals := 610 }) (va_Pc [.ref (aA G 0), .int p1] (cPre D G S sz)) (va_Qi (fun (r : Int32) (S' : CS) => (r, S') = f_GS_run S p1 ∧ IC (N + 4) S') (wB D G (va_A (wC G S) sz)) (va_A (wC G S) sz)) 0 0 (va_A (wC G S) sz) := by
  refine Met.ofW (cc := b_GS_run) (maxL := 3) (ret := (some .int)) (by decide) rfl ?_
  intro p e s m args below meth c s₁ B hml hv
  obtain ⟨rfl, hsz, hP, hK, hD0, hN⟩ := hv
  have hx := B.exec
  have hb := B.bytes
  have hr := B.returns
  have hts := atoms_spec (ws := ws_GS_run) B.pre
  have hown : s.vm.findClass R_GS = some m.cls := findClass_of_methodNamed B.named
  have hlocks := B.notSynchronized
  subst hsz
  have hD := hD0.self (sz := s.heap.size)
  generalize hAe : va_A (wC G S) s.heap.size = A at hD ⊢
  have hA : ∀ q : Nat, s.heap.size ≤ q → A q := fun q h => by rw [← hAe]; exact Or.inr h
  have hS : va_S A s.heap s.heap [] := va_S.rf
  have hl := lv_entry ([.ref (aA G 0), .int p1]) (n := 3) (Nat.le_of_ble_eq_true rfl)
  rw [lg_entry_eq]
  generalize (lg_sl ([.ref (aA G 0), .int p1]) ++ List.replicate (3 - (lg_sl ([.ref (aA G 0), .int p1])).length) Slot.unset).toArray = ls at hl ⊢
  have hl : lv_has ls 3 [(0, .ref (aA G 0)), (1, .int p1)] := hl
  refine lv_iload_n hx hb d_GS_run_0 rfl (lv_at hl 1 rfl) ?_
  refine lv_iconst (v := 1) hx hb d_GS_run_1 (by decide) ?_
  refine lv_icmp_lt (tgt := 20) hx hb d_GS_run_2 (by decide) (fun c_2 => ?_) (fun c_2 => ?_)
  · refine lv_iconst (v := (-1)) hx hb d_GS_run_20 (by decide) ?_
    exact W.iret (v := (-1)) hx hb hr (fun t ht hW => ⟨⟨(-1), S, rfl, ⟨by simp only [f_GS_run, if_pos c_2], (IC_mono hI (by omega))⟩, by rw [ht]; exact hP, hD⟩, hS.F ht⟩) hS.2.2 d_GS_run_21
  · refine lv_iload_n hx hb d_GS_run_5 rfl (lv_at hl 1 rfl) ?_
    refine lv_iconst (v := 4) hx hb d_GS_run_6 (by decide) ?_
    refine lv_icmp_gt (tgt := 20) hx hb d_GS_run_7 (by decide) (fun c_7 => ?_) (fun c_7 => ?_)
    · refine lv_iconst (v := (-1)) hx hb d_GS_run_20 (by decide) ?_
      exact W.iret (v := (-1)) hx hb hr (fun t ht hW => ⟨⟨(-1), S, rfl, ⟨by simp only [f_GS_run, if_neg c_2, if_pos c_7], (IC_mono hI (by omega))⟩, by rw [ht]; exact hP, hD⟩, hS.F ht⟩) hS.2.2 d_GS_run_21
    · refine lv_aload_n hx hb d_GS_run_10 rfl (lv_at hl 0 rfl) ?_
      refine va_get (D := D) (ci := 0) (v := .ref (aA G 9)) (C := R_GS) (T := T_GS) (N := 6) hx hb hts (fun w h => List.mem_cons_of_mem _ (in_GS w h)) hown hK hP 0 (w_0 G S) rfl 4 (by decide) (hts _ (List.mem_cons_of_mem _ kw104)) (fun _ h9 => h9) rfl d_GS_run_11 ?_
      refine vp_callSi (W.runV (As := []) (rest := []) ⟨hx, hb, hml, hown, hts⟩ (c_MA_isGoing l D G S N hI) (cwV 0 hts (gV kw291 kw292 kw293 kw6 kw294) rfl rfl rfl (by decide +kernel) ⟨by show (0 : Nat) + 1 ≤ 22; omega, by show 8 + (1 + 11) + 0 ≤ 610; omega⟩) ⟨blindR, va_recv (ci := 5) (q0 := 9) hK hP rfl (w_9 G S), fun U hU hW => ⟨rfl, rPre_of hP hK hN hU hW⟩⟩ rfl rfl hl.1 rfl (lv_room (Nat.le_of_ble_eq_true rfl)) d_GS_run_14 ⟨Nat.zero_le _, Nat.zero_le _⟩) (fun x14 ex14 => ?_)
      obtain ⟨ex14, bx14⟩ := ex14
      refine lv_if_ne (tgt := 22) hx hb d_GS_run_17 (by decide) (fun c_17 => ?_) (fun c_17 => ?_)
      · refine lv_iconst (v := 0) hx hb d_GS_run_22 (by decide) ?_
        refine lv_istore_n (lv' := [(2, .int 0), (0, .ref (aA G 0)), (1, .int p1)]) hx hb d_GS_run_23 rfl hl (by decide) rfl (fun ls hl => ?_)
        obtain ⟨Bn, hBn, hB60⟩ : ∃ b : Nat, p1 = nI b ∧ b ≤ 4 := rn_nat c_2 c_7
        have loop : ∀ (n : Nat) (S1 : CS) (y2 : Int32) (j : Nat) (H : Heap) (locs : List Loc) (ls : Array Slot), (y2 = nI j ∧ j ≤ Bn ∧ j + n = 5) → f_GS_run S p1 = q_GS_run_24 n S1 p1 y2 → va_P D vwCl (wC G S1) H → va_D A (wC G S1) → va_S A s.heap H locs → IC (N + j) S1 → lv_has ls 3 [(2, .int y2), (0, .ref (aA G 0)), (1, .int p1)] → W p l e (headSpec ws_GS_run ({ frames := 22, cells := 0, slots := 0, locals := 610 })).room s m ([.ref (aA G 0), .int p1] : List Value).toArray below meth c H locs 0 0 (MQ below (va_Qi (fun (r : Int32) (S' : CS) => (r, S') = f_GS_run S p1 ∧ IC (N + 4) S') (wB D G A) A) ([.ref (aA G 0), .int p1] : List Value).toArray s 0 0 A) (F0 m 24 ls []) := by
          intro n
          induction n with
          | zero => intro S1 y2 j H locs ls hi hF hP hD hS hI hl; exact absurd hi (by rintro ⟨-, h1, h2⟩; omega)
          | succ n ih =>
            intro S1 y2 j H locs ls hi hF hP hD hS hI hl
            obtain ⟨hj, hjB, hjn⟩ := hi
            refine lv_iload_n hx hb d_GS_run_24 rfl (lv_at hl 0 rfl) ?_
            refine lv_iload_n hx hb d_GS_run_25 rfl (lv_at hl 2 rfl) ?_
            refine lv_icmp_ge (tgt := 60) hx hb d_GS_run_26 (by decide) (fun c_26 => ?_) (fun c_26 => ?_)
            · refine lv_aload_n hx hb d_GS_run_60 rfl (lv_at hl 1 rfl) ?_
              refine va_get (D := D) (ci := 0) (v := .ref (aA G 9)) (C := R_GS) (T := T_GS) (N := 6) hx hb hts (fun w h => List.mem_cons_of_mem _ (in_GS w h)) hown hK hP 0 (w_0 G S1) rfl 4 (by decide) (hts _ (List.mem_cons_of_mem _ kw104)) (fun _ h9 => h9) rfl d_GS_run_61 ?_
              refine vp_callSi (W.runV (As := []) (rest := []) ⟨hx, hb, hml, hown, hts⟩ (c_MA_isGoing l D G S1 (N + j) hI) (cwV 0 hts (gV kw291 kw292 kw293 kw6 kw294) rfl rfl rfl (by decide +kernel) ⟨by show (0 : Nat) + 1 ≤ 22; omega, by show 8 + (1 + 11) + 0 ≤ 610; omega⟩) ⟨blindR, va_recv (ci := 5) (q0 := 9) hK hP rfl (w_9 G S1), fun U hU hW => ⟨rfl, rPre_of hP hK hN hU hW⟩⟩ rfl rfl hl.1 rfl (lv_room (Nat.le_of_ble_eq_true rfl)) d_GS_run_64 ⟨Nat.zero_le _, Nat.zero_le _⟩) (fun x64 ex64 => ?_)
              obtain ⟨ex64, bx64⟩ := ex64
              refine lv_if_eq (tgt := 74) hx hb d_GS_run_67 (by decide) (fun c_67 => ?_) (fun c_67 => ?_)
              · refine lv_iconst (v := 0) hx hb d_GS_run_74 (by decide) ?_
                exact W.iret (v := 0) hx hb hr (fun t ht hW => ⟨⟨0, S1, rfl, ⟨by rw [hF]; subst ex64; simp only [q_GS_run_24, if_pos c_26, if_pos c_67], (IC_mono hI (by omega))⟩, by rw [ht]; exact hP, hD⟩, hS.F ht⟩) hS.2.2 d_GS_run_75
              · refine lv_iconst (v := 1) hx hb d_GS_run_70 (by decide) ?_
                refine lv_goto (tgt := 75) hx hb d_GS_run_71 (by decide) ?_
                exact W.iret (v := 1) hx hb hr (fun t ht hW => ⟨⟨1, S1, rfl, ⟨by rw [hF]; subst ex64; simp only [q_GS_run_24, if_pos c_26, if_neg c_67], (IC_mono hI (by omega))⟩, by rw [ht]; exact hP, hD⟩, hS.F ht⟩) hS.2.2 d_GS_run_75
            · have hlt : j < Bn := Nat.lt_of_not_le (fun q => c_26 (by rw [hj, hBn]; exact nI_le (a := Bn) q (by omega)))
              refine lv_aload_n hx hb d_GS_run_29 rfl (lv_at hl 1 rfl) ?_
              refine va_get (D := D) (ci := 0) (v := .ref (aA G 9)) (C := R_GS) (T := T_GS) (N := 6) hx hb hts (fun w h => List.mem_cons_of_mem _ (in_GS w h)) hown hK hP 0 (w_0 G S1) rfl 4 (by decide) (hts _ (List.mem_cons_of_mem _ kw104)) (fun _ h9 => h9) rfl d_GS_run_30 ?_
              refine vp_callSi (W.runV (As := []) (rest := []) ⟨hx, hb, hml, hown, hts⟩ (c_MA_isGoing l D G S1 (N + j) hI) (cwV 0 hts (gV kw291 kw292 kw293 kw6 kw294) rfl rfl rfl (by decide +kernel) ⟨by show (0 : Nat) + 1 ≤ 22; omega, by show 8 + (1 + 11) + 0 ≤ 610; omega⟩) ⟨blindR, va_recv (ci := 5) (q0 := 9) hK hP rfl (w_9 G S1), fun U hU hW => ⟨rfl, rPre_of hP hK hN hU hW⟩⟩ rfl rfl hl.1 rfl (lv_room (Nat.le_of_ble_eq_true rfl)) d_GS_run_33 ⟨Nat.zero_le _, Nat.zero_le _⟩) (fun x33 ex33 => ?_)
              obtain ⟨ex33, bx33⟩ := ex33
              refine lv_if_eq (tgt := 60) hx hb d_GS_run_36 (by decide) (fun c_36 => ?_) (fun c_36 => ?_)
              · refine lv_aload_n hx hb d_GS_run_60 rfl (lv_at hl 1 rfl) ?_
                refine va_get (D := D) (ci := 0) (v := .ref (aA G 9)) (C := R_GS) (T := T_GS) (N := 6) hx hb hts (fun w h => List.mem_cons_of_mem _ (in_GS w h)) hown hK hP 0 (w_0 G S1) rfl 4 (by decide) (hts _ (List.mem_cons_of_mem _ kw104)) (fun _ h9 => h9) rfl d_GS_run_61 ?_
                refine vp_callSi (W.runV (As := []) (rest := []) ⟨hx, hb, hml, hown, hts⟩ (c_MA_isGoing l D G S1 (N + j) hI) (cwV 0 hts (gV kw291 kw292 kw293 kw6 kw294) rfl rfl rfl (by decide +kernel) ⟨by show (0 : Nat) + 1 ≤ 22; omega, by show 8 + (1 + 11) + 0 ≤ 610; omega⟩) ⟨blindR, va_recv (ci := 5) (q0 := 9) hK hP rfl (w_9 G S1), fun U hU hW => ⟨rfl, rPre_of hP hK hN hU hW⟩⟩ rfl rfl hl.1 rfl (lv_room (Nat.le_of_ble_eq_true rfl)) d_GS_run_64 ⟨Nat.zero_le _, Nat.zero_le _⟩) (fun x64 ex64 => ?_)
                obtain ⟨ex64, bx64⟩ := ex64
                obtain rfl : x33 = x64 := ex33.trans ex64.symm
                refine lv_if_eq (tgt := 74) hx hb d_GS_run_67 (by decide) (fun c_67 => ?_) (fun c_67 => ?_)
                · refine lv_iconst (v := 0) hx hb d_GS_run_74 (by decide) ?_
                  exact W.iret (v := 0) hx hb hr (fun t ht hW => ⟨⟨0, S1, rfl, ⟨by rw [hF]; subst ex33; simp only [q_GS_run_24, if_neg c_26, if_pos c_36], (IC_mono hI (by omega))⟩, by rw [ht]; exact hP, hD⟩, hS.F ht⟩) hS.2.2 d_GS_run_75
                · exact absurd c_36 c_67
              · refine lv_aload_n hx hb d_GS_run_39 rfl (lv_at hl 1 rfl) ?_
                refine va_get (D := D) (ci := 0) (v := .ref (aA G 9)) (C := R_GS) (T := T_GS) (N := 6) hx hb hts (fun w h => List.mem_cons_of_mem _ (in_GS w h)) hown hK hP 0 (w_0 G S1) rfl 4 (by decide) (hts _ (List.mem_cons_of_mem _ kw104)) (fun _ h9 => h9) rfl d_GS_run_40 ?_
                refine lv_aload_n hx hb d_GS_run_43 rfl (lv_at hl 1 rfl) ?_
                refine va_get (D := D) (ci := 0) (v := .ref (aA G 4)) (C := R_GS) (T := T_GS) (N := 6) hx hb hts (fun w h => List.mem_cons_of_mem _ (in_GS w h)) hown hK hP 0 (w_0 G S1) rfl 2 (by decide) (hts _ (List.mem_cons_of_mem _ kw102)) (fun _ h9 => h9) rfl d_GS_run_44 ?_
                refine lv_aload_n hx hb d_GS_run_47 rfl (lv_at hl 1 rfl) ?_
                refine va_get (D := D) (ci := 0) (v := .ref (aA G 7)) (C := R_GS) (T := T_GS) (N := 6) hx hb hts (fun w h => List.mem_cons_of_mem _ (in_GS w h)) hown hK hP 0 (w_0 G S1) rfl 3 (by decide) (hts _ (List.mem_cons_of_mem _ kw103)) (fun _ h9 => h9) rfl d_GS_run_48 ?_
                refine cq_v (va_runV (As := [.ref (aA G 4), .ref (aA G 7)]) (rest := []) ⟨hx, hb, hml, hown, hts⟩ (c_MA_step l D G S1 _ (N + j) hI (by omega)) (cwV 2 hts (gV kw333 kw334 kw335 kw6 kw336) rfl rfl rfl (by decide +kernel) ⟨by show (21 : Nat) + 1 ≤ 22; omega, by show 8 + (7 + 11) + 584 ≤ 610; omega⟩) ⟨blindC, va_recv (ci := 5) (q0 := 9) hK hP rfl (w_9 G S1), fun U hU hW => ⟨rfl, cPre_of hP hK hD hN hU hW⟩⟩ rfl rfl hl.1 rfl (lv_room (Nat.le_of_ble_eq_true rfl)) d_GS_run_51 ⟨Nat.zero_le _, Nat.zero_le _⟩) hD hS hA (fun S51 H locs hw hP hD hS => ?_)
                obtain ⟨eS51, hI⟩ := hw
                obtain ⟨x54, ex54⟩ : ∃ y : Int32, y = y2 + 1 := ⟨_, rfl⟩
                refine lv_iinc (v := x54) (lv' := [(2, .int x54), (0, .ref (aA G 0)), (1, .int p1)]) hx hb d_GS_run_54 hl (k := 0) rfl (by rw [ex54]; rfl) (by decide) rfl (fun ls hl => ?_)
                refine lv_goto (tgt := 24) hx hb d_GS_run_57 (by decide) ?_
                exact ih S51 x54 (j + 1) _ _ ls ⟨by rw [ex54, hj]; exact nI_1 j, by omega, by omega⟩ (by rw [hF]; subst ex54; subst eS51; subst ex33; simp only [q_GS_run_24, if_neg c_26, if_neg c_36]) hP hD hS hI (lv_sub hl [0, 1, 2] rfl)
        exact loop (fz 5) S 0 0 _ _ ls ⟨nI_0.symm, by omega, by rw [fz_eq]⟩ (by subst ex14; simp only [f_GS_run, if_neg c_2, if_neg c_7, if_neg c_17]) hP hD hS hI hl
      · refine lv_iconst (v := (-1)) hx hb d_GS_run_20 (by decide) ?_
        exact W.iret (v := (-1)) hx hb hr (fun t ht hW => ⟨⟨(-1), S, rfl, ⟨by subst ex14; simp only [f_GS_run, if_neg c_2, if_neg c_7, if_pos c_17], (IC_mono hI (by omega))⟩, by rw [ht]; exact hP, hD⟩, hS.F ht⟩) hS.2.2 d_GS_run_21
set_option maxHeartbeats 4000000 in
set_option maxRecDepth 100000 in
theorem c_GS_stop (l : Launch) (D : va_G) (G : GP) (S : CS) (sz : Nat) (N : Nat) (hI : IC N S) : Met l y_GS_stop ws_GS_stop ({ frames := 1, cells := 0, slots := 0, locals := 20 }) (va_Pc [.ref (aA G 0)] (cPre D G S sz)) (va_Qi (fun (r : Int32) (S' : CS) => (r, S') = f_GS_stop S ∧ IC N S') (wB D G (va_A (wC G S) sz)) (va_A (wC G S) sz)) 0 0 (va_A (wC G S) sz) := by
  refine Met.ofW (cc := b_GS_stop) (maxL := 1) (ret := (some .int)) (by decide) rfl ?_
  intro p e s m args below meth c s₁ B hml hv
  obtain ⟨rfl, hsz, hP, hK, hD0, hN⟩ := hv
  have hx := B.exec
  have hb := B.bytes
  have hr := B.returns
  have hts := atoms_spec (ws := ws_GS_stop) B.pre
  have hown : s.vm.findClass R_GS = some m.cls := findClass_of_methodNamed B.named
  have hlocks := B.notSynchronized
  subst hsz
  have hD := hD0.self (sz := s.heap.size)
  generalize hAe : va_A (wC G S) s.heap.size = A at hD ⊢
  have hA : ∀ q : Nat, s.heap.size ≤ q → A q := fun q h => by rw [← hAe]; exact Or.inr h
  have hS : va_S A s.heap s.heap [] := va_S.rf
  have hl := lv_entry ([.ref (aA G 0)]) (n := 1) (Nat.le_of_ble_eq_true rfl)
  rw [lg_entry_eq]
  generalize (lg_sl ([.ref (aA G 0)]) ++ List.replicate (1 - (lg_sl ([.ref (aA G 0)])).length) Slot.unset).toArray = ls at hl ⊢
  have hl : lv_has ls 1 [(0, .ref (aA G 0))] := hl
  refine lv_aload_n hx hb d_GS_stop_0 rfl (lv_at hl 0 rfl) ?_
  refine va_get (D := D) (ci := 0) (v := .ref (aA G 9)) (C := R_GS) (T := T_GS) (N := 6) hx hb hts (fun w h => List.mem_cons_of_mem _ (in_GS w h)) hown hK hP 0 (w_0 G S) rfl 4 (by decide) (hts _ (List.mem_cons_of_mem _ kw104)) (fun _ h9 => h9) rfl d_GS_stop_1 ?_
  refine vp_callSi (W.runV (As := []) (rest := []) ⟨hx, hb, hml, hown, hts⟩ (c_MA_isGoing l D G S N hI) (cwV 0 hts (gV kw291 kw292 kw293 kw6 kw294) rfl rfl rfl (by decide +kernel) ⟨by show (0 : Nat) + 1 ≤ 1; omega, by show 8 + (1 + 11) + 0 ≤ 20; omega⟩) ⟨blindR, va_recv (ci := 5) (q0 := 9) hK hP rfl (w_9 G S), fun U hU hW => ⟨rfl, rPre_of hP hK hN hU hW⟩⟩ rfl rfl hl.1 rfl (lv_room (Nat.le_of_ble_eq_true rfl)) d_GS_stop_4 ⟨Nat.zero_le _, Nat.zero_le _⟩) (fun x4 ex4 => ?_)
  obtain ⟨ex4, bx4⟩ := ex4
  refine lv_if_ne (tgt := 12) hx hb d_GS_stop_7 (by decide) (fun c_7 => ?_) (fun c_7 => ?_)
  · refine lv_aload_n hx hb d_GS_stop_12 rfl (lv_at hl 0 rfl) ?_
    refine va_get (D := D) (ci := 0) (v := .ref (aA G 9)) (C := R_GS) (T := T_GS) (N := 6) hx hb hts (fun w h => List.mem_cons_of_mem _ (in_GS w h)) hown hK hP 0 (w_0 G S) rfl 4 (by decide) (hts _ (List.mem_cons_of_mem _ kw104)) (fun _ h9 => h9) rfl d_GS_stop_13 ?_
    refine cq_v (va_runV (As := []) (rest := []) ⟨hx, hb, hml, hown, hts⟩ (c_MA_halt l D G S _ N hI) (cwV 0 hts (gV kw126 kw127 kw128 kw6 kw129) rfl rfl rfl (by decide +kernel) ⟨by show (0 : Nat) + 1 ≤ 1; omega, by show 8 + (1 + 11) + 0 ≤ 20; omega⟩) ⟨blindC, va_recv (ci := 5) (q0 := 9) hK hP rfl (w_9 G S), fun U hU hW => ⟨rfl, cPre_of hP hK hD hN hU hW⟩⟩ rfl rfl hl.1 rfl (lv_room (Nat.le_of_ble_eq_true rfl)) d_GS_stop_16 ⟨Nat.zero_le _, Nat.zero_le _⟩) hD hS hA (fun S16 H locs hw hP hD hS => ?_)
    obtain ⟨eS16, hI⟩ := hw
    refine lv_iconst (v := 0) hx hb d_GS_stop_19 (by decide) ?_
    exact W.iret (v := 0) hx hb hr (fun t ht hW => ⟨⟨0, S16, rfl, ⟨by subst eS16; subst ex4; simp only [f_GS_stop, if_neg c_7], hI⟩, by rw [ht]; exact hP, hD⟩, hS.F ht⟩) hS.2.2 d_GS_stop_20
  · refine lv_iconst (v := (-1)) hx hb d_GS_stop_10 (by decide) ?_
    exact W.iret (v := (-1)) hx hb hr (fun t ht hW => ⟨⟨(-1), S, rfl, ⟨by subst ex4; simp only [f_GS_stop, if_pos c_7], hI⟩, by rw [ht]; exact hP, hD⟩, hS.F ht⟩) hS.2.2 d_GS_stop_11
set_option maxHeartbeats 4000000 in
set_option maxRecDepth 100000 in
theorem c_GS_set (l : Launch) (D : va_G) (G : GP) (S : CS) (sz : Nat) (p1 : Int32) (p2 : Int32) (N : Nat) (hI : IC N S) : Met l y_GS_set ws_GS_set ({ frames := 2, cells := 0, slots := 0, locals := 42 }) (va_Pc [.ref (aA G 0), .int p1, .int p2] (cPre D G S sz)) (va_Qi (fun (r : Int32) (S' : CS) => (r, S') = f_GS_set S p1 p2 ∧ IC N S') (wB D G (va_A (wC G S) sz)) (va_A (wC G S) sz)) 0 0 (va_A (wC G S) sz) := by
  refine Met.ofW (cc := b_GS_set) (maxL := 3) (ret := (some .int)) (by decide) rfl ?_
  intro p e s m args below meth c s₁ B hml hv
  obtain ⟨rfl, hsz, hP, hK, hD0, hN⟩ := hv
  have hx := B.exec
  have hb := B.bytes
  have hr := B.returns
  have hts := atoms_spec (ws := ws_GS_set) B.pre
  have hown : s.vm.findClass R_GS = some m.cls := findClass_of_methodNamed B.named
  have hlocks := B.notSynchronized
  subst hsz
  have hD := hD0.self (sz := s.heap.size)
  generalize hAe : va_A (wC G S) s.heap.size = A at hD ⊢
  have hA : ∀ q : Nat, s.heap.size ≤ q → A q := fun q h => by rw [← hAe]; exact Or.inr h
  have hS : va_S A s.heap s.heap [] := va_S.rf
  have hl := lv_entry ([.ref (aA G 0), .int p1, .int p2]) (n := 3) (Nat.le_of_ble_eq_true rfl)
  rw [lg_entry_eq]
  generalize (lg_sl ([.ref (aA G 0), .int p1, .int p2]) ++ List.replicate (3 - (lg_sl ([.ref (aA G 0), .int p1, .int p2])).length) Slot.unset).toArray = ls at hl ⊢
  have hl : lv_has ls 3 [(0, .ref (aA G 0)), (1, .int p1), (2, .int p2)] := hl
  refine lv_aload_n hx hb d_GS_set_0 rfl (lv_at hl 0 rfl) ?_
  refine va_get (D := D) (ci := 0) (v := .ref (aA G 7)) (C := R_GS) (T := T_GS) (N := 6) hx hb hts (fun w h => List.mem_cons_of_mem _ (in_GS w h)) hown hK hP 0 (w_0 G S) rfl 3 (by decide) (hts _ (List.mem_cons_of_mem _ kw103)) (fun _ h9 => h9) rfl d_GS_set_1 ?_
  refine lv_iload_n hx hb d_GS_set_4 rfl (lv_at hl 1 rfl) ?_
  refine lv_iload_n hx hb d_GS_set_5 rfl (lv_at hl 2 rfl) ?_
  refine cq_i (va_runV (As := [.int p1, .int p2]) (rest := []) ⟨hx, hb, hml, hown, hts⟩ (c_CA_assign l D G S _ p1 p2 N hI) (cwV 2 hts (gV kw381 kw361 kw362 kw5 kw363) rfl rfl rfl (by decide +kernel) ⟨by show (1 : Nat) + 1 ≤ 2; omega, by show 8 + (3 + 11) + 20 ≤ 42; omega⟩) ⟨blindC, va_recv (ci := 4) (q0 := 7) hK hP rfl (w_7 G S), fun U hU hW => ⟨rfl, cPre_of hP hK hD hN hU hW⟩⟩ rfl rfl hl.1 rfl (lv_room (Nat.le_of_ble_eq_true rfl)) d_GS_set_6 ⟨Nat.zero_le _, Nat.zero_le _⟩) hD hS hA (fun x6 S6 H locs hw hP hD hS => ?_)
  obtain ⟨hw, hI, bx6⟩ := hw
  have ex6 : x6 = (f_CA_assign S p1 p2).1 := congrArg Prod.fst hw
  have eS6 : S6 = (f_CA_assign S p1 p2).2 := congrArg Prod.snd hw
  clear hw
  refine lv_if_eq (tgt := 16) hx hb d_GS_set_9 (by decide) (fun c_9 => ?_) (fun c_9 => ?_)
  · refine lv_iconst (v := (-1)) hx hb d_GS_set_16 (by decide) ?_
    exact W.iret (v := (-1)) hx hb hr (fun t ht hW => ⟨⟨(-1), S6, rfl, ⟨by subst eS6; subst ex6; simp only [f_GS_set, if_pos c_9], hI⟩, by rw [ht]; exact hP, hD⟩, hS.F ht⟩) hS.2.2 d_GS_set_17
  · refine lv_iconst (v := 0) hx hb d_GS_set_12 (by decide) ?_
    refine lv_goto (tgt := 17) hx hb d_GS_set_13 (by decide) ?_
    exact W.iret (v := 0) hx hb hr (fun t ht hW => ⟨⟨0, S6, rfl, ⟨by subst eS6; subst ex6; simp only [f_GS_set, if_neg c_9], hI⟩, by rw [ht]; exact hP, hD⟩, hS.F ht⟩) hS.2.2 d_GS_set_17
set_option maxHeartbeats 4000000 in
set_option maxRecDepth 100000 in
theorem c_GS_get (l : Launch) (D : va_G) (G : GP) (S : CS) (p1 : Int32) (N : Nat) (hI : IC N S) : Met l y_GS_get ws_GS_get ({ frames := 2, cells := 0, slots := 0, locals := 41 }) (va_Pc [.ref (aA G 0), .int p1] (rPre D G S)) (vp_Sl (fun r => r = f_GS_get S p1)) 0 0 (fun _ => False) := by
  refine Met.ofW (cc := b_GS_get) (maxL := 2) (ret := (some .long)) (by decide) rfl ?_
  intro p e s m args below meth c s₁ B hml hv
  obtain ⟨rfl, hP, hK, hN⟩ := hv
  have hx := B.exec
  have hb := B.bytes
  have hr := B.returns
  have hts := atoms_spec (ws := ws_GS_get) B.pre
  have hown : s.vm.findClass R_GS = some m.cls := findClass_of_methodNamed B.named
  have hlocks := B.notSynchronized
  have hl := lv_entry ([.ref (aA G 0), .int p1]) (n := 2) (Nat.le_of_ble_eq_true rfl)
  rw [lg_entry_eq]
  generalize (lg_sl ([.ref (aA G 0), .int p1]) ++ List.replicate (2 - (lg_sl ([.ref (aA G 0), .int p1])).length) Slot.unset).toArray = ls at hl ⊢
  have hl : lv_has ls 2 [(0, .ref (aA G 0)), (1, .int p1)] := hl
  refine lv_iload_n hx hb d_GS_get_0 rfl (lv_at hl 1 rfl) ?_
  refine vp_callSi (W.runS (As := [.int p1]) (rest := []) ⟨hx, hb, hml, hown, hts⟩ (c_GS_isVariableNumber l p1) (cwS 1 hts (gS kw386 kw364 kw1 kw365) rfl rfl rfl (by decide +kernel) ⟨by show (0 : Nat) + 1 ≤ 2; omega, by show 8 + (1 + 11) + 0 ≤ 41; omega⟩) ⟨blindP, fun U hU hW => ⟨rfl, NW_warm hW hN⟩⟩ rfl rfl hl.1 rfl (lv_room (Nat.le_of_ble_eq_true rfl)) d_GS_get_1 ⟨Nat.zero_le _, Nat.zero_le _⟩) (fun x1 ex1 => ?_)
  obtain ⟨ex1, bx1⟩ := ex1
  refine lv_if_eq (tgt := 19) hx hb d_GS_get_4 (by decide) (fun c_4 => ?_) (fun c_4 => ?_)
  · refine lv_ldc2 (v := (-1000000000000)) hx hb hown (hts _ (List.mem_cons_of_mem _ kw391)) d_GS_get_19 ?_
    exact W.lret (v := (-1000000000000)) hx hb hr (fun t ht hW => ⟨(-1000000000000), rfl, by subst ex1; simp only [f_GS_get, if_pos c_4], ht⟩) (fun q h => absurd h List.not_mem_nil) d_GS_get_22
  · refine lv_aload_n hx hb d_GS_get_7 rfl (lv_at hl 0 rfl) ?_
    refine va_get (D := D) (ci := 0) (v := .ref (aA G 7)) (C := R_GS) (T := T_GS) (N := 6) hx hb hts (fun w h => List.mem_cons_of_mem _ (in_GS w h)) hown hK hP 0 (w_0 G S) rfl 3 (by decide) (hts _ (List.mem_cons_of_mem _ kw103)) (fun _ h9 => h9) rfl d_GS_get_8 ?_
    refine lv_iload_n hx hb d_GS_get_11 rfl (lv_at hl 1 rfl) ?_
    refine vp_callSi (W.runV (As := [.int p1]) (rest := []) ⟨hx, hb, hml, hown, hts⟩ (c_CA_variable l D G S p1 N hI) (cwV 1 hts (gV kw387 kw388 kw389 kw5 kw390) rfl rfl rfl (by decide +kernel) ⟨by show (1 : Nat) + 1 ≤ 2; omega, by show 8 + (2 + 11) + 20 ≤ 41; omega⟩) ⟨blindR, va_recv (ci := 4) (q0 := 7) hK hP rfl (w_7 G S), fun U hU hW => ⟨rfl, rPre_of hP hK hN hU hW⟩⟩ rfl rfl hl.1 rfl (lv_room (Nat.le_of_ble_eq_true rfl)) d_GS_get_12 ⟨Nat.zero_le _, Nat.zero_le _⟩) (fun x12 ex12 => ?_)
    refine lv_i2l (v := x12.toInt64) hx hb d_GS_get_15 rfl ?_
    refine lv_goto (tgt := 22) hx hb d_GS_get_16 (by decide) ?_
    exact W.lret (v := x12.toInt64) hx hb hr (fun t ht hW => ⟨x12.toInt64, rfl, by subst ex12; subst ex1; simp only [f_GS_get, if_neg c_4], ht⟩) (fun q h => absurd h List.not_mem_nil) d_GS_get_22
set_option maxHeartbeats 4000000 in
set_option maxRecDepth 100000 in
theorem c_GS_output (l : Launch) (D : va_G) (G : GP) (S : CS) (p1 : Int32) (N : Nat) (hI : IC N S) : Met l y_GS_output ws_GS_output ({ frames := 2, cells := 0, slots := 0, locals := 42 }) (va_Pc [.ref (aA G 0), .int p1] (rPre D G S)) (vp_Sl (fun r => r = f_GS_output S p1)) 0 0 (fun _ => False) := by
  refine Met.ofW (cc := b_GS_output) (maxL := 2) (ret := (some .long)) (by decide) rfl ?_
  intro p e s m args below meth c s₁ B hml hv
  obtain ⟨rfl, hP, hK, hN⟩ := hv
  have hx := B.exec
  have hb := B.bytes
  have hr := B.returns
  have hts := atoms_spec (ws := ws_GS_output) B.pre
  have hown : s.vm.findClass R_GS = some m.cls := findClass_of_methodNamed B.named
  have hlocks := B.notSynchronized
  have hl := lv_entry ([.ref (aA G 0), .int p1]) (n := 2) (Nat.le_of_ble_eq_true rfl)
  rw [lg_entry_eq]
  generalize (lg_sl ([.ref (aA G 0), .int p1]) ++ List.replicate (2 - (lg_sl ([.ref (aA G 0), .int p1])).length) Slot.unset).toArray = ls at hl ⊢
  have hl : lv_has ls 2 [(0, .ref (aA G 0)), (1, .int p1)] := hl
  refine lv_aload_n hx hb d_GS_output_0 rfl (lv_at hl 0 rfl) ?_
  refine va_get (D := D) (ci := 0) (v := .ref (aA G 9)) (C := R_GS) (T := T_GS) (N := 6) hx hb hts (fun w h => List.mem_cons_of_mem _ (in_GS w h)) hown hK hP 0 (w_0 G S) rfl 4 (by decide) (hts _ (List.mem_cons_of_mem _ kw104)) (fun _ h9 => h9) rfl d_GS_output_1 ?_
  refine lv_iload_n hx hb d_GS_output_4 rfl (lv_at hl 1 rfl) ?_
  refine vp_callSi (W.runV (As := [.int p1]) (rest := []) ⟨hx, hb, hml, hown, hts⟩ (c_MA_hasKept l D G S p1 N hI) (cwV 1 hts (gV kw396 kw397 kw398 kw6 kw399) rfl rfl rfl (by decide +kernel) ⟨by show (0 : Nat) + 1 ≤ 2; omega, by show 8 + (2 + 11) + 0 ≤ 42; omega⟩) ⟨blindR, va_recv (ci := 5) (q0 := 9) hK hP rfl (w_9 G S), fun U hU hW => ⟨rfl, rPre_of hP hK hN hU hW⟩⟩ rfl rfl hl.1 rfl (lv_room (Nat.le_of_ble_eq_true rfl)) d_GS_output_5 ⟨Nat.zero_le _, Nat.zero_le _⟩) (fun x5 ex5 => ?_)
  obtain ⟨ex5, bx5⟩ := ex5
  refine lv_if_eq (tgt := 23) hx hb d_GS_output_8 (by decide) (fun c_8 => ?_) (fun c_8 => ?_)
  · refine lv_ldc2 (v := (-1000000000000)) hx hb hown (hts _ (List.mem_cons_of_mem _ kw391)) d_GS_output_23 ?_
    exact W.lret (v := (-1000000000000)) hx hb hr (fun t ht hW => ⟨(-1000000000000), rfl, by subst ex5; simp only [f_GS_output, if_pos c_8], ht⟩) (fun q h => absurd h List.not_mem_nil) d_GS_output_26
  · refine lv_aload_n hx hb d_GS_output_11 rfl (lv_at hl 0 rfl) ?_
    refine va_get (D := D) (ci := 0) (v := .ref (aA G 9)) (C := R_GS) (T := T_GS) (N := 6) hx hb hts (fun w h => List.mem_cons_of_mem _ (in_GS w h)) hown hK hP 0 (w_0 G S) rfl 4 (by decide) (hts _ (List.mem_cons_of_mem _ kw104)) (fun _ h9 => h9) rfl d_GS_output_12 ?_
    refine lv_iload_n hx hb d_GS_output_15 rfl (lv_at hl 1 rfl) ?_
    refine vp_callSi (W.runV (As := [.int p1]) (rest := []) ⟨hx, hb, hml, hown, hts⟩ (c_MA_kept l D G S p1 N hI) (cwV 1 hts (gV kw400 kw401 kw402 kw6 kw403) rfl rfl rfl (by decide +kernel) ⟨by show (1 : Nat) + 1 ≤ 2; omega, by show 8 + (2 + 11) + 21 ≤ 42; omega⟩) ⟨blindR, va_recv (ci := 5) (q0 := 9) hK hP rfl (w_9 G S), fun U hU hW => ⟨rfl, rPre_of hP hK hN hU hW⟩⟩ rfl rfl hl.1 rfl (lv_room (Nat.le_of_ble_eq_true rfl)) d_GS_output_16 ⟨Nat.zero_le _, Nat.zero_le _⟩) (fun x16 ex16 => ?_)
    refine lv_i2l (v := x16.toInt64) hx hb d_GS_output_19 rfl ?_
    refine lv_goto (tgt := 26) hx hb d_GS_output_20 (by decide) ?_
    exact W.lret (v := x16.toInt64) hx hb hr (fun t ht hW => ⟨x16.toInt64, rfl, by subst ex16; subst ex5; simp only [f_GS_output, if_neg c_8], ht⟩) (fun q h => absurd h List.not_mem_nil) d_GS_output_26
set_option maxHeartbeats 4000000 in
set_option maxRecDepth 100000 in
theorem c_GS_at (l : Launch) (D : va_G) (G : GP) (S : CS) (p1 : Int32) (N : Nat) (hI : IC N S) : Met l y_GS_at ws_GS_at ({ frames := 4, cells := 0, slots := 0, locals := 84 }) (va_Pc [.ref (aA G 0), .int p1] (rPre D G S)) (vp_Si (fun r => r = f_GS_at S p1)) 0 0 (fun _ => False) := by
  refine Met.ofW (cc := b_GS_at) (maxL := 2) (ret := (some .int)) (by decide) rfl ?_
  intro p e s m args below meth c s₁ B hml hv
  obtain ⟨rfl, hP, hK, hN⟩ := hv
  have hx := B.exec
  have hb := B.bytes
  have hr := B.returns
  have hts := atoms_spec (ws := ws_GS_at) B.pre
  have hown : s.vm.findClass R_GS = some m.cls := findClass_of_methodNamed B.named
  have hlocks := B.notSynchronized
  have hl := lv_entry ([.ref (aA G 0), .int p1]) (n := 2) (Nat.le_of_ble_eq_true rfl)
  rw [lg_entry_eq]
  generalize (lg_sl ([.ref (aA G 0), .int p1]) ++ List.replicate (2 - (lg_sl ([.ref (aA G 0), .int p1])).length) Slot.unset).toArray = ls at hl ⊢
  have hl : lv_has ls 2 [(0, .ref (aA G 0)), (1, .int p1)] := hl
  refine lv_iload_n hx hb d_GS_at_0 rfl (lv_at hl 1 rfl) ?_
  by_cases c_1_0 : p1 = 0
  · refine lv_tableIn (tgt := 32) hx hb d_GS_at_1 (by rw [c_1_0]; decide) (by rw [c_1_0]; decide) (by rw [c_1_0]; first | done | rfl) (by decide) ?_
    refine lv_aload_n hx hb d_GS_at_32 rfl (lv_at hl 0 rfl) ?_
    refine va_get (D := D) (ci := 0) (v := .ref (aA G 9)) (C := R_GS) (T := T_GS) (N := 6) hx hb hts (fun w h => List.mem_cons_of_mem _ (in_GS w h)) hown hK hP 0 (w_0 G S) rfl 4 (by decide) (hts _ (List.mem_cons_of_mem _ kw104)) (fun _ h9 => h9) rfl d_GS_at_33 ?_
    refine vp_callSi (W.runV (As := []) (rest := []) ⟨hx, hb, hml, hown, hts⟩ (c_MA_letterCode l D G S N hI) (cwV 0 hts (gV kw409 kw410 kw411 kw6 kw412) rfl rfl rfl (by decide +kernel) ⟨by show (0 : Nat) + 1 ≤ 4; omega, by show 8 + (1 + 11) + 0 ≤ 84; omega⟩) ⟨blindR, va_recv (ci := 5) (q0 := 9) hK hP rfl (w_9 G S), fun U hU hW => ⟨rfl, rPre_of hP hK hN hU hW⟩⟩ rfl rfl hl.1 rfl (lv_room (Nat.le_of_ble_eq_true rfl)) d_GS_at_36 ⟨Nat.zero_le _, Nat.zero_le _⟩) (fun x36 ex36 => ?_)
    exact W.iret (v := x36) hx hb hr (fun t ht hW => ⟨x36, rfl, by subst ex36; simp only [f_GS_at, if_pos c_1_0], ht⟩) (fun q h => absurd h List.not_mem_nil) d_GS_at_39
  by_cases c_1_1 : p1 = 1
  · refine lv_tableIn (tgt := 40) hx hb d_GS_at_1 (by rw [c_1_1]; decide) (by rw [c_1_1]; decide) (by rw [c_1_1]; first | done | rfl) (by decide) ?_
    refine lv_aload_n hx hb d_GS_at_40 rfl (lv_at hl 0 rfl) ?_
    refine va_get (D := D) (ci := 0) (v := .ref (aA G 9)) (C := R_GS) (T := T_GS) (N := 6) hx hb hts (fun w h => List.mem_cons_of_mem _ (in_GS w h)) hown hK hP 0 (w_0 G S) rfl 4 (by decide) (hts _ (List.mem_cons_of_mem _ kw104)) (fun _ h9 => h9) rfl d_GS_at_41 ?_
    refine lv_aload_n hx hb d_GS_at_44 rfl (lv_at hl 0 rfl) ?_
    refine va_get (D := D) (ci := 0) (v := .ref (aA G 4)) (C := R_GS) (T := T_GS) (N := 6) hx hb hts (fun w h => List.mem_cons_of_mem _ (in_GS w h)) hown hK hP 0 (w_0 G S) rfl 2 (by decide) (hts _ (List.mem_cons_of_mem _ kw102)) (fun _ h9 => h9) rfl d_GS_at_45 ?_
    refine vp_callSi (W.runV (As := [.ref (aA G 4)]) (rest := []) ⟨hx, hb, hml, hown, hts⟩ (c_MA_statementNumber l D G S N hI) (cwV 1 hts (gV kw413 kw414 kw415 kw6 kw416) rfl rfl rfl (by decide +kernel) ⟨by show (3 : Nat) + 1 ≤ 4; omega, by show 8 + (3 + 11) + 62 ≤ 84; omega⟩) ⟨blindR, va_recv (ci := 5) (q0 := 9) hK hP rfl (w_9 G S), fun U hU hW => ⟨rfl, rPre_of hP hK hN hU hW⟩⟩ rfl rfl hl.1 rfl (lv_room (Nat.le_of_ble_eq_true rfl)) d_GS_at_48 ⟨Nat.zero_le _, Nat.zero_le _⟩) (fun x48 ex48 => ?_)
    exact W.iret (v := x48) hx hb hr (fun t ht hW => ⟨x48, rfl, by subst ex48; simp only [f_GS_at, if_neg c_1_0, if_pos c_1_1], ht⟩) (fun q h => absurd h List.not_mem_nil) d_GS_at_51
  by_cases c_1_2 : p1 = 2
  · refine lv_tableIn (tgt := 52) hx hb d_GS_at_1 (by rw [c_1_2]; decide) (by rw [c_1_2]; decide) (by rw [c_1_2]; first | done | rfl) (by decide) ?_
    refine lv_aload_n hx hb d_GS_at_52 rfl (lv_at hl 0 rfl) ?_
    refine va_get (D := D) (ci := 0) (v := .ref (aA G 9)) (C := R_GS) (T := T_GS) (N := 6) hx hb hts (fun w h => List.mem_cons_of_mem _ (in_GS w h)) hown hK hP 0 (w_0 G S) rfl 4 (by decide) (hts _ (List.mem_cons_of_mem _ kw104)) (fun _ h9 => h9) rfl d_GS_at_53 ?_
    refine vp_callSi (W.runV (As := []) (rest := []) ⟨hx, hb, hml, hown, hts⟩ (c_MA_depth l D G S N hI) (cwV 0 hts (gV kw421 kw422 kw423 kw6 kw424) rfl rfl rfl (by decide +kernel) ⟨by show (0 : Nat) + 1 ≤ 4; omega, by show 8 + (1 + 11) + 0 ≤ 84; omega⟩) ⟨blindR, va_recv (ci := 5) (q0 := 9) hK hP rfl (w_9 G S), fun U hU hW => ⟨rfl, rPre_of hP hK hN hU hW⟩⟩ rfl rfl hl.1 rfl (lv_room (Nat.le_of_ble_eq_true rfl)) d_GS_at_56 ⟨Nat.zero_le _, Nat.zero_le _⟩) (fun x56 ex56 => ?_)
    exact W.iret (v := x56) hx hb hr (fun t ht hW => ⟨x56, rfl, by subst ex56; simp only [f_GS_at, if_neg c_1_0, if_neg c_1_1, if_pos c_1_2], ht⟩) (fun q h => absurd h List.not_mem_nil) d_GS_at_59
  by_cases c_1_3 : p1 = 3
  · refine lv_tableIn (tgt := 60) hx hb d_GS_at_1 (by rw [c_1_3]; decide) (by rw [c_1_3]; decide) (by rw [c_1_3]; first | done | rfl) (by decide) ?_
    refine lv_aload_n hx hb d_GS_at_60 rfl (lv_at hl 0 rfl) ?_
    refine va_get (D := D) (ci := 0) (v := .ref (aA G 9)) (C := R_GS) (T := T_GS) (N := 6) hx hb hts (fun w h => List.mem_cons_of_mem _ (in_GS w h)) hown hK hP 0 (w_0 G S) rfl 4 (by decide) (hts _ (List.mem_cons_of_mem _ kw104)) (fun _ h9 => h9) rfl d_GS_at_61 ?_
    refine vp_callSi (W.runV (As := []) (rest := []) ⟨hx, hb, hml, hown, hts⟩ (c_MA_outputCount l D G S N hI) (cwV 0 hts (gV kw425 kw426 kw427 kw6 kw428) rfl rfl rfl (by decide +kernel) ⟨by show (0 : Nat) + 1 ≤ 4; omega, by show 8 + (1 + 11) + 0 ≤ 84; omega⟩) ⟨blindR, va_recv (ci := 5) (q0 := 9) hK hP rfl (w_9 G S), fun U hU hW => ⟨rfl, rPre_of hP hK hN hU hW⟩⟩ rfl rfl hl.1 rfl (lv_room (Nat.le_of_ble_eq_true rfl)) d_GS_at_64 ⟨Nat.zero_le _, Nat.zero_le _⟩) (fun x64 ex64 => ?_)
    exact W.iret (v := x64) hx hb hr (fun t ht hW => ⟨x64, rfl, by subst ex64; simp only [f_GS_at, if_neg c_1_0, if_neg c_1_1, if_neg c_1_2, if_pos c_1_3], ht⟩) (fun q h => absurd h List.not_mem_nil) d_GS_at_67
  refine lv_tableOut (tgt := 68) hx hb d_GS_at_1 (by have h0 := lv_neT (a := 0) c_1_0 (by decide); have h1 := lv_neT (a := 1) c_1_1 (by decide); have h2 := lv_neT (a := 2) c_1_2 (by decide); have h3 := lv_neT (a := 3) c_1_3 (by decide); omega) (by decide) ?_
  refine lv_iconst (v := (-1)) hx hb d_GS_at_68 (by decide) ?_
  exact W.iret (v := (-1)) hx hb hr (fun t ht hW => ⟨(-1), rfl, by simp only [f_GS_at, if_neg c_1_0, if_neg c_1_1, if_neg c_1_2, if_neg c_1_3], ht⟩) (fun q h => absurd h List.not_mem_nil) d_GS_at_69
set_option maxHeartbeats 4000000 in
set_option maxRecDepth 100000 in
theorem c_GS_operate (l : Launch) (D : va_G) (G : GP) (S : CS) (p1 : Int32) (p2 : Int32) (p3 : Int32) (N : Nat) (hI : IC N S) : Met l y_GS_operate ws_GS_operate ({ frames := 1, cells := 0, slots := 0, locals := 22 }) (va_Pc [.ref (aA G 0), .int p1, .int p2, .int p3] (rPre D G S)) (vp_Sl (fun r => r = f_GS_operate S p1 p2 p3)) 0 0 (fun _ => False) := by
  refine Met.ofW (cc := b_GS_operate) (maxL := 4) (ret := (some .long)) (by decide) rfl ?_
  intro p e s m args below meth c s₁ B hml hv
  obtain ⟨rfl, hP, hK, hN⟩ := hv
  have hx := B.exec
  have hb := B.bytes
  have hr := B.returns
  have hts := atoms_spec (ws := ws_GS_operate) B.pre
  have hown : s.vm.findClass R_GS = some m.cls := findClass_of_methodNamed B.named
  have hlocks := B.notSynchronized
  have hl := lv_entry ([.ref (aA G 0), .int p1, .int p2, .int p3]) (n := 4) (Nat.le_of_ble_eq_true rfl)
  rw [lg_entry_eq]
  generalize (lg_sl ([.ref (aA G 0), .int p1, .int p2, .int p3]) ++ List.replicate (4 - (lg_sl ([.ref (aA G 0), .int p1, .int p2, .int p3])).length) Slot.unset).toArray = ls at hl ⊢
  have hl : lv_has ls 4 [(0, .ref (aA G 0)), (1, .int p1), (2, .int p2), (3, .int p3)] := hl
  refine lv_iload_n hx hb d_GS_operate_0 rfl (lv_at hl 1 rfl) ?_
  refine lv_if_lt (tgt := 9) hx hb d_GS_operate_1 (by decide) (fun c_1 => ?_) (fun c_1 => ?_)
  · refine lv_ldc2 (v := (-1000000000000)) hx hb hown (hts _ (List.mem_cons_of_mem _ kw391)) d_GS_operate_9 ?_
    exact W.lret (v := (-1000000000000)) hx hb hr (fun t ht hW => ⟨(-1000000000000), rfl, by simp only [f_GS_operate, if_pos c_1], ht⟩) (fun q h => absurd h List.not_mem_nil) d_GS_operate_12
  · refine lv_iload_n hx hb d_GS_operate_4 rfl (lv_at hl 1 rfl) ?_
    refine lv_iconst (v := 5) hx hb d_GS_operate_5 (by decide) ?_
    refine lv_icmp_le (tgt := 13) hx hb d_GS_operate_6 (by decide) (fun c_6 => ?_) (fun c_6 => ?_)
    · refine lv_iload_n hx hb d_GS_operate_13 rfl (lv_at hl 1 rfl) ?_
      refine lv_iload_n hx hb d_GS_operate_14 rfl (lv_at hl 2 rfl) ?_
      refine lv_iload_n hx hb d_GS_operate_15 rfl (lv_at hl 3 rfl) ?_
      refine vp_callSi (W.runS (As := [.int p1, .int p2, .int p3]) (rest := []) ⟨hx, hb, hml, hown, hts⟩ (c_GS_worked l p1 p2 p3) (cwS 3 hts (gS kw433 kw354 kw1 kw355) rfl rfl rfl (by decide +kernel) ⟨by show (0 : Nat) + 1 ≤ 1; omega, by show 8 + (3 + 11) + 0 ≤ 22; omega⟩) ⟨blindP, fun U hU hW => ⟨rfl, NW_warm hW hN⟩⟩ rfl rfl hl.1 rfl (lv_room (Nat.le_of_ble_eq_true rfl)) d_GS_operate_16 ⟨Nat.zero_le _, Nat.zero_le _⟩) (fun x16 ex16 => ?_)
      refine lv_i2l (v := x16.toInt64) hx hb d_GS_operate_19 rfl ?_
      exact W.lret (v := x16.toInt64) hx hb hr (fun t ht hW => ⟨x16.toInt64, rfl, by subst ex16; simp only [f_GS_operate, if_neg c_1, if_pos c_6], ht⟩) (fun q h => absurd h List.not_mem_nil) d_GS_operate_20
    · refine lv_ldc2 (v := (-1000000000000)) hx hb hown (hts _ (List.mem_cons_of_mem _ kw391)) d_GS_operate_9 ?_
      exact W.lret (v := (-1000000000000)) hx hb hr (fun t ht hW => ⟨(-1000000000000), rfl, by simp only [f_GS_operate, if_neg c_1, if_neg c_6], ht⟩) (fun q h => absurd h List.not_mem_nil) d_GS_operate_12
set_option maxHeartbeats 4000000 in
set_option maxRecDepth 100000 in
theorem c_GS_state (l : Launch) (D : va_G) (G : GP) (S : CS) (p1 : Int32) (p2 : Int32) (N : Nat) (hI : IC N S) : Met l y_GS_state ws_GS_state ({ frames := 1, cells := 0, slots := 0, locals := 20 }) (va_Pc [.ref (aA G 0), .int p1, .int p2] (rPre D G S)) (vp_Si (fun r => r = f_GS_state S p1 p2)) 0 0 (fun _ => False) := by
  refine Met.ofW (cc := b_GS_state) (maxL := 3) (ret := (some .int)) (by decide) rfl ?_
  intro p e s m args below meth c s₁ B hml hv
  obtain ⟨rfl, hP, hK, hN⟩ := hv
  have hx := B.exec
  have hb := B.bytes
  have hr := B.returns
  have hts := atoms_spec (ws := ws_GS_state) B.pre
  have hown : s.vm.findClass R_GS = some m.cls := findClass_of_methodNamed B.named
  have hlocks := B.notSynchronized
  have hl := lv_entry ([.ref (aA G 0), .int p1, .int p2]) (n := 3) (Nat.le_of_ble_eq_true rfl)
  rw [lg_entry_eq]
  generalize (lg_sl ([.ref (aA G 0), .int p1, .int p2]) ++ List.replicate (3 - (lg_sl ([.ref (aA G 0), .int p1, .int p2])).length) Slot.unset).toArray = ls at hl ⊢
  have hl : lv_has ls 3 [(0, .ref (aA G 0)), (1, .int p1), (2, .int p2)] := hl
  refine lv_iload_n hx hb d_GS_state_0 rfl (lv_at hl 1 rfl) ?_
  refine vp_callSi (W.runS (As := [.int p1]) (rest := []) ⟨hx, hb, hml, hown, hts⟩ (c_GS_isModule l p1) (cwS 1 hts (gS kw116 kw117 kw1 kw118) rfl rfl rfl (by decide +kernel) ⟨by show (0 : Nat) + 1 ≤ 1; omega, by show 8 + (1 + 11) + 0 ≤ 20; omega⟩) ⟨blindP, fun U hU hW => ⟨rfl, NW_warm hW hN⟩⟩ rfl rfl hl.1 rfl (lv_room (Nat.le_of_ble_eq_true rfl)) d_GS_state_1 ⟨Nat.zero_le _, Nat.zero_le _⟩) (fun x1 ex1 => ?_)
  obtain ⟨ex1, bx1⟩ := ex1
  refine lv_if_ne (tgt := 9) hx hb d_GS_state_4 (by decide) (fun c_4 => ?_) (fun c_4 => ?_)
  · refine lv_iload_n hx hb d_GS_state_9 rfl (lv_at hl 2 rfl) ?_
    by_cases c_10_0 : p2 = 0
    · refine lv_tableIn (tgt := 36) hx hb d_GS_state_10 (by rw [c_10_0]; decide) (by rw [c_10_0]; decide) (by rw [c_10_0]; first | done | rfl) (by decide) ?_
      refine lv_aload_n hx hb d_GS_state_36 rfl (lv_at hl 0 rfl) ?_
      refine va_get (D := D) (ci := 0) (v := .ref (aA G 1)) (C := R_GS) (T := T_GS) (N := 6) hx hb hts (fun w h => List.mem_cons_of_mem _ (in_GS w h)) hown hK hP 0 (w_0 G S) rfl 0 (by decide) (hts _ (List.mem_cons_of_mem _ kw100)) (fun _ h9 => h9) rfl d_GS_state_37 ?_
      refine lv_iload_n hx hb d_GS_state_40 rfl (lv_at hl 1 rfl) ?_
      refine md_ald (D := D) hx hb hK hP (md_in (by rw [← ex1]; exact c_4)) d_GS_state_41 ?_
      refine vp_callSi (W.runV (As := []) (rest := []) ⟨hx, hb, hml, hown, hts⟩ (c_MT_length l D G S p1.toNatClampNeg N hI (md_k (by rw [← ex1]; exact c_4))) (cwV 0 hts (gV kw130 kw131 kw132 kw2 kw133) rfl rfl rfl (by decide +kernel) ⟨by show (0 : Nat) + 1 ≤ 1; omega, by show 8 + (1 + 11) + 0 ≤ 20; omega⟩) ⟨blindR, va_recv (ci := 1) (q0 := 13 + 7 * p1.toNatClampNeg) hK hP rfl (wt_0 G S (md_k (by rw [← ex1]; exact c_4))), fun U hU hW => ⟨rfl, rPre_of hP hK hN hU hW⟩⟩ rfl rfl hl.1 rfl (lv_room (Nat.le_of_ble_eq_true rfl)) d_GS_state_42 ⟨Nat.zero_le _, Nat.zero_le _⟩) (fun x42 ex42 => ?_)
      exact W.iret (v := x42) hx hb hr (fun t ht hW => ⟨x42, rfl, by subst ex42; subst ex1; simp only [f_GS_state, if_neg c_4, if_pos c_10_0], ht⟩) (fun q h => absurd h List.not_mem_nil) d_GS_state_45
    by_cases c_10_1 : p2 = 1
    · refine lv_tableIn (tgt := 46) hx hb d_GS_state_10 (by rw [c_10_1]; decide) (by rw [c_10_1]; decide) (by rw [c_10_1]; first | done | rfl) (by decide) ?_
      refine lv_aload_n hx hb d_GS_state_46 rfl (lv_at hl 0 rfl) ?_
      refine va_get (D := D) (ci := 0) (v := .ref (aA G 1)) (C := R_GS) (T := T_GS) (N := 6) hx hb hts (fun w h => List.mem_cons_of_mem _ (in_GS w h)) hown hK hP 0 (w_0 G S) rfl 0 (by decide) (hts _ (List.mem_cons_of_mem _ kw100)) (fun _ h9 => h9) rfl d_GS_state_47 ?_
      refine lv_iload_n hx hb d_GS_state_50 rfl (lv_at hl 1 rfl) ?_
      refine md_ald (D := D) hx hb hK hP (md_in (by rw [← ex1]; exact c_4)) d_GS_state_51 ?_
      refine vp_callSi (W.runV (As := []) (rest := []) ⟨hx, hb, hml, hown, hts⟩ (c_MT_isCompiled l D G S p1.toNatClampNeg N hI (md_k (by rw [← ex1]; exact c_4))) (cwV 0 hts (gV kw258 kw259 kw260 kw2 kw261) rfl rfl rfl (by decide +kernel) ⟨by show (0 : Nat) + 1 ≤ 1; omega, by show 8 + (1 + 11) + 0 ≤ 20; omega⟩) ⟨blindR, va_recv (ci := 1) (q0 := 13 + 7 * p1.toNatClampNeg) hK hP rfl (wt_0 G S (md_k (by rw [← ex1]; exact c_4))), fun U hU hW => ⟨rfl, rPre_of hP hK hN hU hW⟩⟩ rfl rfl hl.1 rfl (lv_room (Nat.le_of_ble_eq_true rfl)) d_GS_state_52 ⟨Nat.zero_le _, Nat.zero_le _⟩) (fun x52 ex52 => ?_)
      obtain ⟨ex52, bx52⟩ := ex52
      refine lv_if_eq (tgt := 62) hx hb d_GS_state_55 (by decide) (fun c_55 => ?_) (fun c_55 => ?_)
      · refine lv_iconst (v := 0) hx hb d_GS_state_62 (by decide) ?_
        exact W.iret (v := 0) hx hb hr (fun t ht hW => ⟨0, rfl, by subst ex52; subst ex1; simp only [f_GS_state, if_neg c_4, if_neg c_10_0, if_pos c_10_1, if_pos c_55], ht⟩) (fun q h => absurd h List.not_mem_nil) d_GS_state_63
      · refine lv_iconst (v := 1) hx hb d_GS_state_58 (by decide) ?_
        refine lv_goto (tgt := 63) hx hb d_GS_state_59 (by decide) ?_
        exact W.iret (v := 1) hx hb hr (fun t ht hW => ⟨1, rfl, by subst ex52; subst ex1; simp only [f_GS_state, if_neg c_4, if_neg c_10_0, if_pos c_10_1, if_neg c_55], ht⟩) (fun q h => absurd h List.not_mem_nil) d_GS_state_63
    by_cases c_10_2 : p2 = 2
    · refine lv_tableIn (tgt := 64) hx hb d_GS_state_10 (by rw [c_10_2]; decide) (by rw [c_10_2]; decide) (by rw [c_10_2]; first | done | rfl) (by decide) ?_
      refine lv_aload_n hx hb d_GS_state_64 rfl (lv_at hl 0 rfl) ?_
      refine va_get (D := D) (ci := 0) (v := .int (S.2 0 5)) (C := R_GS) (T := T_GS) (N := 6) hx hb hts (fun w h => List.mem_cons_of_mem _ (in_GS w h)) hown hK hP 0 (w_0 G S) rfl 5 (by decide) (hts _ (List.mem_cons_of_mem _ kw105)) (fun _ h9 => h9) rfl d_GS_state_65 ?_
      refine lv_if_eq (tgt := 75) hx hb d_GS_state_68 (by decide) (fun c_68 => ?_) (fun c_68 => ?_)
      · refine lv_iconst (v := 0) hx hb d_GS_state_75 (by decide) ?_
        exact W.iret (v := 0) hx hb hr (fun t ht hW => ⟨0, rfl, by subst ex1; simp only [f_GS_state, if_neg c_4, if_neg c_10_0, if_neg c_10_1, if_pos c_10_2, if_pos c_68], ht⟩) (fun q h => absurd h List.not_mem_nil) d_GS_state_76
      · refine lv_iconst (v := 1) hx hb d_GS_state_71 (by decide) ?_
        refine lv_goto (tgt := 76) hx hb d_GS_state_72 (by decide) ?_
        exact W.iret (v := 1) hx hb hr (fun t ht hW => ⟨1, rfl, by subst ex1; simp only [f_GS_state, if_neg c_4, if_neg c_10_0, if_neg c_10_1, if_pos c_10_2, if_neg c_68], ht⟩) (fun q h => absurd h List.not_mem_nil) d_GS_state_76
    refine lv_tableOut (tgt := 77) hx hb d_GS_state_10 (by have h0 := lv_neT (a := 0) c_10_0 (by decide); have h1 := lv_neT (a := 1) c_10_1 (by decide); have h2 := lv_neT (a := 2) c_10_2 (by decide); omega) (by decide) ?_
    refine lv_iconst (v := (-1)) hx hb d_GS_state_77 (by decide) ?_
    exact W.iret (v := (-1)) hx hb hr (fun t ht hW => ⟨(-1), rfl, by subst ex1; simp only [f_GS_state, if_neg c_4, if_neg c_10_0, if_neg c_10_1, if_neg c_10_2], ht⟩) (fun q h => absurd h List.not_mem_nil) d_GS_state_78
  · refine lv_iconst (v := (-1)) hx hb d_GS_state_7 (by decide) ?_
    exact W.iret (v := (-1)) hx hb hr (fun t ht hW => ⟨(-1), rfl, by subst ex1; simp only [f_GS_state, if_pos c_4], ht⟩) (fun q h => absurd h List.not_mem_nil) d_GS_state_8
