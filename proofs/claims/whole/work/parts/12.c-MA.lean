set_option maxHeartbeats 4000000 in
set_option maxRecDepth 100000 in
theorem c_MA_halt (l : Launch) (D : va_G) (G : GP) (S : CS) (sz : Nat) (N : Nat) (hI : IC N S) : Met l y_MA_halt ws_MA_halt ({ frames := 0, cells := 0, slots := 0, locals := 0 }) (va_Pc [.ref (aA G 9)] (cPre D G S sz)) (va_Qv (fun S' : CS => S' = f_MA_halt S ∧ IC N S') (wB D G (va_A (wC G S) sz)) (va_A (wC G S) sz)) 0 0 (va_A (wC G S) sz) := by
  refine Met.ofW (cc := b_MA_halt) (maxL := 1) (ret := none) (by decide) rfl ?_
  intro p e s m args below meth c s₁ B hml hv
  obtain ⟨rfl, hsz, hP, hK, hD0, hN⟩ := hv
  have hx := B.exec
  have hb := B.bytes
  have hr := B.returns
  have hts := atoms_spec (ws := ws_MA_halt) B.pre
  have hown : s.vm.findClass R_MA = some m.cls := findClass_of_methodNamed B.named
  have hlocks := B.notSynchronized
  subst hsz
  have hD := hD0.self (sz := s.heap.size)
  generalize hAe : va_A (wC G S) s.heap.size = A at hD ⊢
  have hA : ∀ q : Nat, s.heap.size ≤ q → A q := fun q h => by rw [← hAe]; exact Or.inr h
  have hS : va_S A s.heap s.heap [] := va_S.rf
  have hl := lv_entry ([.ref (aA G 9)]) (n := 1) (Nat.le_of_ble_eq_true rfl)
  rw [lg_entry_eq]
  generalize (lg_sl ([.ref (aA G 9)]) ++ List.replicate (1 - (lg_sl ([.ref (aA G 9)])).length) Slot.unset).toArray = ls at hl ⊢
  have hl : lv_has ls 1 [(0, .ref (aA G 9))] := hl
  refine lv_aload_n hx hb d_MA_halt_0 rfl (lv_at hl 0 rfl) ?_
  refine lv_iconst (v := 0) hx hb d_MA_halt_1 (by decide) ?_
  refine va_putE (D := D) (ci := 5) (v := .int 0) (ty := .int) (C := R_MA) (T := T_MA) (N := 5) hx hb hts (fun w h => List.mem_cons_of_mem _ (in_MA w h)) t_MA t_MA_ok n_MA hown hK hP hD hS 9 (w_9 G S) rfl 3 (by decide) (hts _ (List.mem_cons_of_mem _ kw93)) (fun _ h9 => h9) rfl (by decide +kernel) rfl rfl (Nat.le_of_ble_eq_true rfl) (wst_9_3 G S 0) d_MA_halt_2 (fun H locs hP hD hS => ?_)
  obtain ⟨S2, eS2⟩ : ∃ y : CS, y = stR S 9 3 0 := ⟨_, rfl⟩
  rw [← eS2] at hP hD
  have hI : IC N S2 := by rw [eS2]; exact IC_md0 hI
  exact W.vret hx hb hr (fun t ht hW => ⟨⟨S2, rfl, ⟨by subst eS2; simp only [f_MA_halt], hI⟩, by rw [ht]; exact hP, hD⟩, hS.F ht⟩) hS.2.2 d_MA_halt_5
set_option maxHeartbeats 4000000 in
set_option maxRecDepth 100000 in
theorem c_MA_isGoing (l : Launch) (D : va_G) (G : GP) (S : CS) (N : Nat) (hI : IC N S) : Met l y_MA_isGoing ws_MA_isGoing ({ frames := 0, cells := 0, slots := 0, locals := 0 }) (va_Pc [.ref (aA G 9)] (rPre D G S)) (vp_Si (fun r => r = f_MA_isGoing S ∧ bl r)) 0 0 (fun _ => False) := by
  refine Met.ofW (cc := b_MA_isGoing) (maxL := 1) (ret := (some .boolean)) (by decide) rfl ?_
  intro p e s m args below meth c s₁ B hml hv
  obtain ⟨rfl, hP, hK, hN⟩ := hv
  have hx := B.exec
  have hb := B.bytes
  have hr := B.returns
  have hts := atoms_spec (ws := ws_MA_isGoing) B.pre
  have hown : s.vm.findClass R_MA = some m.cls := findClass_of_methodNamed B.named
  have hlocks := B.notSynchronized
  have hl := lv_entry ([.ref (aA G 9)]) (n := 1) (Nat.le_of_ble_eq_true rfl)
  rw [lg_entry_eq]
  generalize (lg_sl ([.ref (aA G 9)]) ++ List.replicate (1 - (lg_sl ([.ref (aA G 9)])).length) Slot.unset).toArray = ls at hl ⊢
  have hl : lv_has ls 1 [(0, .ref (aA G 9))] := hl
  refine lv_aload_n hx hb d_MA_isGoing_0 rfl (lv_at hl 0 rfl) ?_
  refine va_get (D := D) (ci := 5) (v := .int (S.2 9 3)) (C := R_MA) (T := T_MA) (N := 5) hx hb hts (fun w h => List.mem_cons_of_mem _ (in_MA w h)) hown hK hP 9 (w_9 G S) rfl 3 (by decide) (hts _ (List.mem_cons_of_mem _ kw93)) (fun _ h9 => h9) rfl d_MA_isGoing_1 ?_
  refine lv_if_le (tgt := 11) hx hb d_MA_isGoing_4 (by decide) (fun c_4 => ?_) (fun c_4 => ?_)
  · refine lv_iconst (v := 0) hx hb d_MA_isGoing_11 (by decide) ?_
    exact W.zret (v := 0) hx hb hr (bl_nar (Or.inl rfl)) (fun t ht hW => ⟨0, rfl, ⟨by simp only [f_MA_isGoing, if_pos c_4], (Or.inl rfl)⟩, ht⟩) (fun q h => absurd h List.not_mem_nil) d_MA_isGoing_12
  · refine lv_iconst (v := 1) hx hb d_MA_isGoing_7 (by decide) ?_
    refine lv_goto (tgt := 12) hx hb d_MA_isGoing_8 (by decide) ?_
    exact W.zret (v := 1) hx hb hr (bl_nar (Or.inr rfl)) (fun t ht hW => ⟨1, rfl, ⟨by simp only [f_MA_isGoing, if_neg c_4], (Or.inr rfl)⟩, ht⟩) (fun q h => absurd h List.not_mem_nil) d_MA_isGoing_12
set_option maxHeartbeats 4000000 in
set_option maxRecDepth 100000 in
theorem c_MA_enter (l : Launch) (D : va_G) (G : GP) (S : CS) (sz : Nat) (p2 : Int32) (N : Nat) (hI : IC N S) : Met l y_MA_enter ws_MA_enter ({ frames := 2, cells := 0, slots := 0, locals := 41 }) (va_Pc [.ref (aA G 9), .ref (aA G 4), .int p2] (cPre D G S sz)) (va_Qv (fun S' : CS => S' = f_MA_enter S p2 ∧ IC N S') (wB D G (va_A (wC G S) sz)) (va_A (wC G S) sz)) 0 0 (va_A (wC G S) sz) := by
  refine Met.ofW (cc := b_MA_enter) (maxL := 4) (ret := none) (by decide) rfl ?_
  intro p e s m args below meth c s₁ B hml hv
  obtain ⟨rfl, hsz, hP, hK, hD0, hN⟩ := hv
  have hx := B.exec
  have hb := B.bytes
  have hr := B.returns
  have hts := atoms_spec (ws := ws_MA_enter) B.pre
  have hown : s.vm.findClass R_MA = some m.cls := findClass_of_methodNamed B.named
  have hlocks := B.notSynchronized
  subst hsz
  have hD := hD0.self (sz := s.heap.size)
  generalize hAe : va_A (wC G S) s.heap.size = A at hD ⊢
  have hA : ∀ q : Nat, s.heap.size ≤ q → A q := fun q h => by rw [← hAe]; exact Or.inr h
  have hS : va_S A s.heap s.heap [] := va_S.rf
  have hl := lv_entry ([.ref (aA G 9), .ref (aA G 4), .int p2]) (n := 4) (Nat.le_of_ble_eq_true rfl)
  rw [lg_entry_eq]
  generalize (lg_sl ([.ref (aA G 9), .ref (aA G 4), .int p2]) ++ List.replicate (4 - (lg_sl ([.ref (aA G 9), .ref (aA G 4), .int p2])).length) Slot.unset).toArray = ls at hl ⊢
  have hl : lv_has ls 4 [(0, .ref (aA G 9)), (1, .ref (aA G 4)), (2, .int p2)] := hl
  have hI0 := hI
  refine lv_aload_n hx hb d_MA_enter_0 rfl (lv_at hl 1 rfl) ?_
  refine lv_iload_n hx hb d_MA_enter_1 rfl (lv_at hl 2 rfl) ?_
  refine va_csq (W.runV (As := [.int p2]) (rest := []) ⟨hx, hb, hml, hown, hts⟩ (c_PR_homeOf l D G S p2 N hI) (cwV 1 hts (gV kw302 kw303 kw304 kw4 kw305) rfl rfl rfl (by decide +kernel) ⟨by show (1 : Nat) + 1 ≤ 2; omega, by show 8 + (2 + 11) + 20 ≤ 41; omega⟩) ⟨blindR, va_recv (ci := 3) (q0 := 4) hK hP rfl (w_4 G S), fun U hU hW => ⟨rfl, rPre_of hP hK hN hU hW⟩⟩ rfl rfl hl.1 rfl (lv_room (Nat.le_of_ble_eq_true rfl)) d_MA_enter_2 ⟨Nat.zero_le _, Nat.zero_le _⟩) (fun rn2 en2 => ?_)
  rw [en2]
  obtain ⟨n5, en5⟩ : ∃ y : Nat, y = f_PR_homeOf S p2 := ⟨_, rfl⟩
  rw [← en5]
  rcases Nat.eq_zero_or_pos n5 with c_5 | c_5
  · subst c_5
    refine lv_astore_nN (lv' := [(3, .null), (0, .ref (aA G 9)), (1, .ref (aA G 4)), (2, .int p2)]) hx hb d_MA_enter_5 rfl hl (by decide) rfl (fun ls hl => ?_)
    refine lv_aload_nN hx hb d_MA_enter_6 rfl (lv_at hl 0 rfl) ?_
    refine lv_ifnullN (tgt := 19) hx hb d_MA_enter_7 (by decide) ?_
    exact W.vret hx hb hr (fun t ht hW => ⟨⟨S, rfl, ⟨by simp only [f_MA_enter, if_pos en5.symm], hI⟩, by rw [ht]; exact hP, hD⟩, hS.F ht⟩) hS.2.2 d_MA_enter_19
  · obtain ⟨k5, rfl⟩ : ∃ y : Nat, n5 = y + 1 := ⟨n5 - 1, by omega⟩
    have ek5 : f_PR_homeOf S p2 - 1 = k5 := by rw [← en5]; rfl
    have hz5 : ¬ f_PR_homeOf S p2 = 0 := by rw [← en5]; exact Nat.succ_ne_zero _
    have hk5 : k5 < 3 := ho_k hI en5
    refine lv_astore_n (lv' := [(3, .ref (tA G k5 0)), (0, .ref (aA G 9)), (1, .ref (aA G 4)), (2, .int p2)]) hx hb d_MA_enter_5 rfl hl (by decide) rfl (fun ls hl => ?_)
    refine lv_aload_n hx hb d_MA_enter_6 rfl (lv_at hl 0 rfl) ?_
    refine lv_ifnull hx hb d_MA_enter_7 ?_
    refine lv_aload_n hx hb d_MA_enter_10 rfl (lv_at hl 1 rfl) ?_
    refine va_get (D := D) (ci := 5) (v := .int (S.2 9 3)) (C := R_MA) (T := T_MA) (N := 5) hx hb hts (fun w h => List.mem_cons_of_mem _ (in_MA w h)) hown hK hP 9 (w_9 G S) rfl 3 (by decide) (hts _ (List.mem_cons_of_mem _ kw93)) (fun _ h9 => h9) rfl d_MA_enter_11 ?_
    refine lv_bipush (v := 26) hx hb d_MA_enter_14 (by decide) ?_
    refine lv_icmp_lt (tgt := 20) hx hb d_MA_enter_16 (by decide) (fun c_16 => ?_) (fun c_16 => ?_)
    · refine lv_aload_n hx hb d_MA_enter_20 rfl (lv_at hl 1 rfl) ?_
      refine va_get (D := D) (ci := 5) (v := .ref (aA G 10)) (C := R_MA) (T := T_MA) (N := 5) hx hb hts (fun w h => List.mem_cons_of_mem _ (in_MA w h)) hown hK hP 9 (w_9 G S) rfl 0 (by decide) (hts _ (List.mem_cons_of_mem _ kw90)) (fun _ h9 => h9) rfl d_MA_enter_21 ?_
      refine lv_aload_n hx hb d_MA_enter_24 rfl (lv_at hl 1 rfl) ?_
      refine va_get (D := D) (ci := 5) (v := .int (S.2 9 3)) (C := R_MA) (T := T_MA) (N := 5) hx hb hts (fun w h => List.mem_cons_of_mem _ (in_MA w h)) hown hK hP 9 (w_9 G S) rfl 3 (by decide) (hts _ (List.mem_cons_of_mem _ kw93)) (fun _ h9 => h9) rfl d_MA_enter_25 ?_
      refine lv_iload_n hx hb d_MA_enter_28 rfl (lv_at hl 3 rfl) ?_
      refine va_iastE (D := D) hx hb hK hP hD hS 10 0 (w_10 G S) rfl (dp_in hI (i_lt 26 rfl c_16)) (wsta_10 G S (S.2 9 3).toNatClampNeg p2) d_MA_enter_29 (fun H locs hP hD hS => ?_)
      obtain ⟨S29, eS29⟩ : ∃ y : CS, y = stR S 10 (S.2 9 3).toNatClampNeg p2 := ⟨_, rfl⟩
      rw [← eS29] at hP hD
      have hI : IC N S29 := by rw [eS29]; exact IC_A hI _ _ _ (by decide)
      refine lv_aload_n hx hb d_MA_enter_30 rfl (lv_at hl 1 rfl) ?_
      refine va_get (D := D) (ci := 5) (v := .ref (aA G 11)) (C := R_MA) (T := T_MA) (N := 5) hx hb hts (fun w h => List.mem_cons_of_mem _ (in_MA w h)) hown hK hP 9 (w_9 G S29) rfl 1 (by decide) (hts _ (List.mem_cons_of_mem _ kw91)) (fun _ h9 => h9) rfl d_MA_enter_31 ?_
      refine lv_aload_n hx hb d_MA_enter_34 rfl (lv_at hl 1 rfl) ?_
      refine va_get (D := D) (ci := 5) (v := .int (S29.2 9 3)) (C := R_MA) (T := T_MA) (N := 5) hx hb hts (fun w h => List.mem_cons_of_mem _ (in_MA w h)) hown hK hP 9 (w_9 G S29) rfl 3 (by decide) (hts _ (List.mem_cons_of_mem _ kw93)) (fun _ h9 => h9) rfl d_MA_enter_35 ?_
      refine lv_aload_n hx hb d_MA_enter_38 rfl (lv_at hl 0 rfl) ?_
      refine lv_iload_n hx hb d_MA_enter_39 rfl (lv_at hl 3 rfl) ?_
      refine vp_callSi (W.runV (As := [.int p2]) (rest := [.int (S29.2 9 3), .ref (aA G 11)]) ⟨hx, hb, hml, hown, hts⟩ (c_MT_firstPlaceOf l D G S29 k5 p2 N hI hk5) (cwV 1 hts (gV kw306 kw307 kw308 kw2 kw309) rfl rfl rfl (by decide +kernel) ⟨by show (1 : Nat) + 1 ≤ 2; omega, by show 8 + (2 + 11) + 20 ≤ 41; omega⟩) ⟨blindR, va_recv (ci := 1) (q0 := 13 + 7 * k5) hK hP rfl (wt_0 G S29 hk5), fun U hU hW => ⟨rfl, rPre_of hP hK hN hU hW⟩⟩ rfl rfl hl.1 rfl (lv_room (Nat.le_of_ble_eq_true rfl)) d_MA_enter_40 ⟨Nat.zero_le _, Nat.zero_le _⟩) (fun x40 ex40 => ?_)
      refine va_iastE (D := D) hx hb hK hP hD hS 11 0 (w_11 G S29) rfl (by rw [eS29]; exact dp_in hI0 (i_lt 26 rfl c_16)) (wsta_11 G S29 (S29.2 9 3).toNatClampNeg x40) d_MA_enter_43 (fun H locs hP hD hS => ?_)
      obtain ⟨S43, eS43⟩ : ∃ y : CS, y = stR S29 11 (S29.2 9 3).toNatClampNeg x40 := ⟨_, rfl⟩
      rw [← eS43] at hP hD
      have hI : IC N S43 := by rw [eS43]; exact IC_A hI _ _ _ (by decide)
      refine lv_aload_n hx hb d_MA_enter_44 rfl (lv_at hl 1 rfl) ?_
      refine lv_dup hx hb d_MA_enter_45 rfl ?_
      refine va_get (D := D) (ci := 5) (v := .int (S43.2 9 3)) (C := R_MA) (T := T_MA) (N := 5) hx hb hts (fun w h => List.mem_cons_of_mem _ (in_MA w h)) hown hK hP 9 (w_9 G S43) rfl 3 (by decide) (hts _ (List.mem_cons_of_mem _ kw93)) (fun _ h9 => h9) rfl d_MA_enter_46 ?_
      refine lv_iconst (v := 1) hx hb d_MA_enter_49 (by decide) ?_
      refine lv_iadd hx hb d_MA_enter_50 ?_
      refine lv_topi (fun x50 ex50 => ?_)
      refine va_putE (D := D) (ci := 5) (v := .int x50) (ty := .int) (C := R_MA) (T := T_MA) (N := 5) hx hb hts (fun w h => List.mem_cons_of_mem _ (in_MA w h)) t_MA t_MA_ok n_MA hown hK hP hD hS 9 (w_9 G S43) rfl 3 (by decide) (hts _ (List.mem_cons_of_mem _ kw93)) (fun _ h9 => h9) rfl (by decide +kernel) rfl rfl (Nat.le_of_ble_eq_true rfl) (wst_9_3 G S43 x50) d_MA_enter_51 (fun H locs hP hD hS => ?_)
      obtain ⟨S51, eS51⟩ : ∃ y : CS, y = stR S43 9 3 x50 := ⟨_, rfl⟩
      rw [← eS51] at hP hD
      have hI : IC N S51 := by rw [eS51]; exact (have q := md_p hI0 (i_lt 26 rfl c_16); IC_md hI _ (by rw [ex50, eS43, eS29]; exact q.1) (by rw [ex50, eS43, eS29]; exact q.2))
      exact W.vret hx hb hr (fun t ht hW => ⟨⟨S51, rfl, ⟨by subst eS51; subst ex50; subst eS43; subst ex40; subst eS29; simp only [f_MA_enter, if_neg hz5, ek5, if_pos c_16], hI⟩, by rw [ht]; exact hP, hD⟩, hS.F ht⟩) hS.2.2 d_MA_enter_54
    · exact W.vret hx hb hr (fun t ht hW => ⟨⟨S, rfl, ⟨by simp only [f_MA_enter, if_neg hz5, ek5, if_neg c_16], hI⟩, by rw [ht]; exact hP, hD⟩, hS.F ht⟩) hS.2.2 d_MA_enter_19
set_option maxHeartbeats 4000000 in
set_option maxRecDepth 100000 in
theorem c_MA_currentText (l : Launch) (D : va_G) (G : GP) (S : CS) (N : Nat) (hI : IC N S) : Met l y_MA_currentText ws_MA_currentText ({ frames := 2, cells := 0, slots := 0, locals := 41 }) (va_Pc [.ref (aA G 9), .ref (aA G 4)] (rPre D G S)) (va_Sq (fun r => r = hm G (f_MA_currentText S))) 0 0 (fun _ => False) := by
  refine Met.ofW (cc := b_MA_currentText) (maxL := 2) (ret := (some (.object "GateStack$ModuleText"))) (by decide) rfl ?_
  intro p e s m args below meth c s₁ B hml hv
  obtain ⟨rfl, hP, hK, hN⟩ := hv
  have hx := B.exec
  have hb := B.bytes
  have hr := B.returns
  have hts := atoms_spec (ws := ws_MA_currentText) B.pre
  have hown : s.vm.findClass R_MA = some m.cls := findClass_of_methodNamed B.named
  have hlocks := B.notSynchronized
  have hl := lv_entry ([.ref (aA G 9), .ref (aA G 4)]) (n := 2) (Nat.le_of_ble_eq_true rfl)
  rw [lg_entry_eq]
  generalize (lg_sl ([.ref (aA G 9), .ref (aA G 4)]) ++ List.replicate (2 - (lg_sl ([.ref (aA G 9), .ref (aA G 4)])).length) Slot.unset).toArray = ls at hl ⊢
  have hl : lv_has ls 2 [(0, .ref (aA G 9)), (1, .ref (aA G 4))] := hl
  refine lv_aload_n hx hb d_MA_currentText_0 rfl (lv_at hl 0 rfl) ?_
  refine va_get (D := D) (ci := 5) (v := .int (S.2 9 3)) (C := R_MA) (T := T_MA) (N := 5) hx hb hts (fun w h => List.mem_cons_of_mem _ (in_MA w h)) hown hK hP 9 (w_9 G S) rfl 3 (by decide) (hts _ (List.mem_cons_of_mem _ kw93)) (fun _ h9 => h9) rfl d_MA_currentText_1 ?_
  refine lv_if_le (tgt := 25) hx hb d_MA_currentText_4 (by decide) (fun c_4 => ?_) (fun c_4 => ?_)
  · refine lv_null hx hb d_MA_currentText_25 ?_
    exact W.aret (v := .null) hx hb hr (Or.inl ⟨_, rfl⟩) (va_rf_or (hm G 0)) (fun t ht hW => ⟨hm G 0, rfl, by simp only [f_MA_currentText, if_pos c_4], ht⟩) (fun q h => absurd h List.not_mem_nil) d_MA_currentText_26
  · refine lv_aload_n hx hb d_MA_currentText_7 rfl (lv_at hl 1 rfl) ?_
    refine lv_aload_n hx hb d_MA_currentText_8 rfl (lv_at hl 0 rfl) ?_
    refine va_get (D := D) (ci := 5) (v := .ref (aA G 10)) (C := R_MA) (T := T_MA) (N := 5) hx hb hts (fun w h => List.mem_cons_of_mem _ (in_MA w h)) hown hK hP 9 (w_9 G S) rfl 0 (by decide) (hts _ (List.mem_cons_of_mem _ kw90)) (fun _ h9 => h9) rfl d_MA_currentText_9 ?_
    refine lv_aload_n hx hb d_MA_currentText_12 rfl (lv_at hl 0 rfl) ?_
    refine va_get (D := D) (ci := 5) (v := .int (S.2 9 3)) (C := R_MA) (T := T_MA) (N := 5) hx hb hts (fun w h => List.mem_cons_of_mem _ (in_MA w h)) hown hK hP 9 (w_9 G S) rfl 3 (by decide) (hts _ (List.mem_cons_of_mem _ kw93)) (fun _ h9 => h9) rfl d_MA_currentText_13 ?_
    refine lv_iconst (v := 1) hx hb d_MA_currentText_16 (by decide) ?_
    refine lv_isub hx hb d_MA_currentText_17 ?_
    refine lv_topi (fun x17 ex17 => ?_)
    refine va_iald (D := D) hx hb hK hP 10 0 (w_10 G S) rfl (by rw [ex17]; exact dm_in hI (i_nle0 c_4)) d_MA_currentText_18 ?_
    refine lv_topi (fun x18 ex18 => ?_)
    refine va_csq (W.runV (As := [.int x18]) (rest := []) ⟨hx, hb, hml, hown, hts⟩ (c_PR_homeOf l D G S x18 N hI) (cwV 1 hts (gV kw302 kw303 kw304 kw4 kw305) rfl rfl rfl (by decide +kernel) ⟨by show (1 : Nat) + 1 ≤ 2; omega, by show 8 + (2 + 11) + 20 ≤ 41; omega⟩) ⟨blindR, va_recv (ci := 3) (q0 := 4) hK hP rfl (w_4 G S), fun U hU hW => ⟨rfl, rPre_of hP hK hN hU hW⟩⟩ rfl rfl hl.1 rfl (lv_room (Nat.le_of_ble_eq_true rfl)) d_MA_currentText_19 ⟨Nat.zero_le _, Nat.zero_le _⟩) (fun rn19 en19 => ?_)
    rw [en19]
    refine lv_goto (tgt := 26) hx hb d_MA_currentText_22 (by decide) ?_
    exact W.aret (v := va_rf (hm G (f_PR_homeOf S x18))) hx hb hr (Or.inl ⟨_, rfl⟩) (va_rf_or (hm G (f_PR_homeOf S x18))) (fun t ht hW => ⟨hm G (f_PR_homeOf S x18), rfl, by subst ex18; subst ex17; simp only [f_MA_currentText, if_neg c_4], ht⟩) (fun q h => absurd h List.not_mem_nil) d_MA_currentText_26
set_option maxHeartbeats 4000000 in
set_option maxRecDepth 100000 in
theorem c_MA_leaveEndedBlocks (l : Launch) (D : va_G) (G : GP) (S : CS) (sz : Nat) (N : Nat) (hI : IC N S) : Met l y_MA_leaveEndedBlocks ws_MA_leaveEndedBlocks ({ frames := 3, cells := 0, slots := 0, locals := 64 }) (va_Pc [.ref (aA G 9), .ref (aA G 4)] (cPre D G S sz)) (va_Qv (fun S' : CS => S' = f_MA_leaveEndedBlocks S ∧ IC N S') (wB D G (va_A (wC G S) sz)) (va_A (wC G S) sz)) 0 0 (va_A (wC G S) sz) := by
  refine Met.ofW (cc := b_MA_leaveEndedBlocks) (maxL := 5) (ret := none) (by decide) rfl ?_
  intro p e s m args below meth c s₁ B hml hv
  obtain ⟨rfl, hsz, hP, hK, hD0, hN⟩ := hv
  have hx := B.exec
  have hb := B.bytes
  have hr := B.returns
  have hts := atoms_spec (ws := ws_MA_leaveEndedBlocks) B.pre
  have hown : s.vm.findClass R_MA = some m.cls := findClass_of_methodNamed B.named
  have hlocks := B.notSynchronized
  subst hsz
  have hD := hD0.self (sz := s.heap.size)
  generalize hAe : va_A (wC G S) s.heap.size = A at hD ⊢
  have hA : ∀ q : Nat, s.heap.size ≤ q → A q := fun q h => by rw [← hAe]; exact Or.inr h
  have hS : va_S A s.heap s.heap [] := va_S.rf
  have hl := lv_entry ([.ref (aA G 9), .ref (aA G 4)]) (n := 5) (Nat.le_of_ble_eq_true rfl)
  rw [lg_entry_eq]
  generalize (lg_sl ([.ref (aA G 9), .ref (aA G 4)]) ++ List.replicate (5 - (lg_sl ([.ref (aA G 9), .ref (aA G 4)])).length) Slot.unset).toArray = ls at hl ⊢
  have hl : lv_has ls 5 [(0, .ref (aA G 9)), (1, .ref (aA G 4))] := hl
  refine lv_iconst (v := 0) hx hb d_MA_leaveEndedBlocks_0 (by decide) ?_
  refine lv_istore_n (lv' := [(2, .int 0), (0, .ref (aA G 9)), (1, .ref (aA G 4))]) hx hb d_MA_leaveEndedBlocks_1 rfl hl (by decide) rfl (fun ls hl => ?_)
  have loop : ∀ (n : Nat) (S1 : CS) (y2 : Int32) (j : Nat) (H : Heap) (locs : List Loc) (ls : Array Slot), (y2 = nI j ∧ j ≤ 156 ∧ j + n = 157) → f_MA_leaveEndedBlocks S = q_MA_leaveEndedBlocks_2 n S1 y2 → va_P D vwCl (wC G S1) H → va_D A (wC G S1) → va_S A s.heap H locs → IC N S1 → lv_has ls 5 [(2, .int y2), (0, .ref (aA G 9)), (1, .ref (aA G 4))] → W p l e (headSpec ws_MA_leaveEndedBlocks ({ frames := 3, cells := 0, slots := 0, locals := 64 })).room s m ([.ref (aA G 9), .ref (aA G 4)] : List Value).toArray below meth c H locs 0 0 (MQ below (va_Qv (fun S' : CS => S' = f_MA_leaveEndedBlocks S ∧ IC N S') (wB D G A) A) ([.ref (aA G 9), .ref (aA G 4)] : List Value).toArray s 0 0 A) (F0 m 2 ls []) := by
    intro n
    induction n with
    | zero => intro S1 y2 j H locs ls hi hF hP hD hS hI hl; exact absurd hi (by rintro ⟨-, h1, h2⟩; omega)
    | succ n ih =>
      intro S1 y2 j H locs ls hi hF hP hD hS hI hl
      obtain ⟨hj, hjB, hjn⟩ := hi
      refine lv_iload_n hx hb d_MA_leaveEndedBlocks_2 rfl (lv_at hl 0 rfl) ?_
      refine lv_sipush (v := 156) hx hb d_MA_leaveEndedBlocks_3 (by decide) ?_
      refine lv_icmp_ge (tgt := 98) hx hb d_MA_leaveEndedBlocks_6 (by decide) (fun c_6 => ?_) (fun c_6 => ?_)
      · exact W.vret hx hb hr (fun t ht hW => ⟨⟨S1, rfl, ⟨by rw [hF]; simp only [q_MA_leaveEndedBlocks_2, if_pos c_6], hI⟩, by rw [ht]; exact hP, hD⟩, hS.F ht⟩) hS.2.2 d_MA_leaveEndedBlocks_98
      · have hlt : j < 156 := Nat.lt_of_not_le (fun q => c_6 (by rw [hj]; exact nI_le (a := 156) q (by omega)))
        refine lv_aload_n hx hb d_MA_leaveEndedBlocks_9 rfl (lv_at hl 1 rfl) ?_
        refine lv_aload_n hx hb d_MA_leaveEndedBlocks_10 rfl (lv_at hl 2 rfl) ?_
        refine va_csq (W.runV (As := [.ref (aA G 4)]) (rest := []) ⟨hx, hb, hml, hown, hts⟩ (c_MA_currentText l D G S1 N hI) (cwV 1 hts (gV kw313 kw314 kw645 kw6 kw315) rfl rfl rfl (by decide +kernel) ⟨by show (2 : Nat) + 1 ≤ 3; omega, by show 8 + (2 + 11) + 41 ≤ 64; omega⟩) ⟨blindR, va_recv (ci := 5) (q0 := 9) hK hP rfl (w_9 G S1), fun U hU hW => ⟨rfl, rPre_of hP hK hN hU hW⟩⟩ rfl rfl hl.1 rfl (lv_room (Nat.le_of_ble_eq_true rfl)) d_MA_leaveEndedBlocks_11 ⟨Nat.zero_le _, Nat.zero_le _⟩) (fun rn11 en11 => ?_)
        rw [en11]
        obtain ⟨n14, en14⟩ : ∃ y : Nat, y = f_MA_currentText S1 := ⟨_, rfl⟩
        rw [← en14]
        rcases Nat.eq_zero_or_pos n14 with c_14 | c_14
        · subst c_14
          refine lv_astore_nN (lv' := [(3, .null), (2, .int y2), (0, .ref (aA G 9)), (1, .ref (aA G 4))]) hx hb d_MA_leaveEndedBlocks_14 rfl hl (by decide) rfl (fun ls hl => ?_)
          refine lv_aload_nN hx hb d_MA_leaveEndedBlocks_15 rfl (lv_at hl 0 rfl) ?_
          refine lv_ifnullN (tgt := 39) hx hb d_MA_leaveEndedBlocks_16 (by decide) ?_
          exact W.vret hx hb hr (fun t ht hW => ⟨⟨S1, rfl, ⟨by rw [hF]; simp only [q_MA_leaveEndedBlocks_2, if_neg c_6, if_pos en14.symm], hI⟩, by rw [ht]; exact hP, hD⟩, hS.F ht⟩) hS.2.2 d_MA_leaveEndedBlocks_39
        · obtain ⟨k14, rfl⟩ : ∃ y : Nat, n14 = y + 1 := ⟨n14 - 1, by omega⟩
          have ek14 : f_MA_currentText S1 - 1 = k14 := by rw [← en14]; rfl
          have hz14 : ¬ f_MA_currentText S1 = 0 := by rw [← en14]; exact Nat.succ_ne_zero _
          have hk14 : k14 < 3 := ct_k hI en14
          refine lv_astore_n (lv' := [(3, .ref (tA G k14 0)), (2, .int y2), (0, .ref (aA G 9)), (1, .ref (aA G 4))]) hx hb d_MA_leaveEndedBlocks_14 rfl hl (by decide) rfl (fun ls hl => ?_)
          refine lv_aload_n hx hb d_MA_leaveEndedBlocks_15 rfl (lv_at hl 0 rfl) ?_
          refine lv_ifnull hx hb d_MA_leaveEndedBlocks_16 ?_
          refine lv_aload_n hx hb d_MA_leaveEndedBlocks_19 rfl (lv_at hl 0 rfl) ?_
          refine lv_aload_n hx hb d_MA_leaveEndedBlocks_20 rfl (lv_at hl 2 rfl) ?_
          refine va_get (D := D) (ci := 5) (v := .ref (aA G 11)) (C := R_MA) (T := T_MA) (N := 5) hx hb hts (fun w h => List.mem_cons_of_mem _ (in_MA w h)) hown hK hP 9 (w_9 G S1) rfl 1 (by decide) (hts _ (List.mem_cons_of_mem _ kw91)) (fun _ h9 => h9) rfl d_MA_leaveEndedBlocks_21 ?_
          refine lv_aload_n hx hb d_MA_leaveEndedBlocks_24 rfl (lv_at hl 2 rfl) ?_
          refine va_get (D := D) (ci := 5) (v := .int (S1.2 9 3)) (C := R_MA) (T := T_MA) (N := 5) hx hb hts (fun w h => List.mem_cons_of_mem _ (in_MA w h)) hown hK hP 9 (w_9 G S1) rfl 3 (by decide) (hts _ (List.mem_cons_of_mem _ kw93)) (fun _ h9 => h9) rfl d_MA_leaveEndedBlocks_25 ?_
          refine lv_iconst (v := 1) hx hb d_MA_leaveEndedBlocks_28 (by decide) ?_
          refine lv_isub hx hb d_MA_leaveEndedBlocks_29 ?_
          refine lv_topi (fun x29 ex29 => ?_)
          refine va_iald (D := D) hx hb hK hP 11 0 (w_11 G S1) rfl (by rw [ex29]; exact dm_in hI (ct_pos en14)) d_MA_leaveEndedBlocks_30 ?_
          refine lv_topi (fun x30 ex30 => ?_)
          refine vp_callSi (W.runV (As := [.int x30]) (rest := []) ⟨hx, hb, hml, hown, hts⟩ (c_MT_signAt l D G S1 k14 x30 N hI hk14) (cwV 1 hts (gV kw316 kw160 kw161 kw2 kw162) rfl rfl rfl (by decide +kernel) ⟨by show (0 : Nat) + 1 ≤ 3; omega, by show 8 + (2 + 11) + 0 ≤ 64; omega⟩) ⟨blindR, va_recv (ci := 1) (q0 := 13 + 7 * k14) hK hP rfl (wt_0 G S1 hk14), fun U hU hW => ⟨rfl, rPre_of hP hK hN hU hW⟩⟩ rfl rfl hl.1 rfl (lv_room (Nat.le_of_ble_eq_true rfl)) d_MA_leaveEndedBlocks_31 ⟨Nat.zero_le _, Nat.zero_le _⟩) (fun x31 ex31 => ?_)
          refine lv_bipush (v := 125) hx hb d_MA_leaveEndedBlocks_34 (by decide) ?_
          refine lv_icmp_eq (tgt := 40) hx hb d_MA_leaveEndedBlocks_36 (by decide) (fun c_36 => ?_) (fun c_36 => ?_)
          · refine lv_aload_n hx hb d_MA_leaveEndedBlocks_40 rfl (lv_at hl 2 rfl) ?_
            refine va_get (D := D) (ci := 5) (v := .ref (aA G 11)) (C := R_MA) (T := T_MA) (N := 5) hx hb hts (fun w h => List.mem_cons_of_mem _ (in_MA w h)) hown hK hP 9 (w_9 G S1) rfl 1 (by decide) (hts _ (List.mem_cons_of_mem _ kw91)) (fun _ h9 => h9) rfl d_MA_leaveEndedBlocks_41 ?_
            refine lv_aload_n hx hb d_MA_leaveEndedBlocks_44 rfl (lv_at hl 2 rfl) ?_
            refine va_get (D := D) (ci := 5) (v := .int (S1.2 9 3)) (C := R_MA) (T := T_MA) (N := 5) hx hb hts (fun w h => List.mem_cons_of_mem _ (in_MA w h)) hown hK hP 9 (w_9 G S1) rfl 3 (by decide) (hts _ (List.mem_cons_of_mem _ kw93)) (fun _ h9 => h9) rfl d_MA_leaveEndedBlocks_45 ?_
            refine lv_iconst (v := 1) hx hb d_MA_leaveEndedBlocks_48 (by decide) ?_
            refine lv_isub hx hb d_MA_leaveEndedBlocks_49 ?_
            refine lv_topi (fun x49 ex49 => ?_)
            refine va_iald (D := D) hx hb hK hP 11 0 (w_11 G S1) rfl (by rw [ex49]; exact dm_in hI (ct_pos en14)) d_MA_leaveEndedBlocks_50 ?_
            refine lv_topi (fun x50 ex50 => ?_)
            refine lv_istore (lv' := [(4, .int x50), (3, .ref (tA G k14 0)), (2, .int y2), (0, .ref (aA G 9)), (1, .ref (aA G 4))]) hx hb d_MA_leaveEndedBlocks_51 hl (by decide) rfl (fun ls hl => ?_)
            refine lv_aload_n hx hb d_MA_leaveEndedBlocks_53 rfl (lv_at hl 1 rfl) ?_
            refine lv_iload hx hb d_MA_leaveEndedBlocks_54 (lv_at hl 0 rfl) ?_
            refine vp_callSi (W.runV (As := [.int x50]) (rest := []) ⟨hx, hb, hml, hown, hts⟩ (c_MT_endsProcedure l D G S1 k14 x50 N hI hk14) (cwV 1 hts (gV kw317 kw318 kw319 kw2 kw320) rfl rfl rfl (by decide +kernel) ⟨by show (1 : Nat) + 1 ≤ 3; omega, by show 8 + (2 + 11) + 21 ≤ 64; omega⟩) ⟨blindR, va_recv (ci := 1) (q0 := 13 + 7 * k14) hK hP rfl (wt_0 G S1 hk14), fun U hU hW => ⟨rfl, rPre_of hP hK hN hU hW⟩⟩ rfl rfl hl.1 rfl (lv_room (Nat.le_of_ble_eq_true rfl)) d_MA_leaveEndedBlocks_56 ⟨Nat.zero_le _, Nat.zero_le _⟩) (fun x56 ex56 => ?_)
            obtain ⟨ex56, bx56⟩ := ex56
            refine lv_if_eq (tgt := 75) hx hb d_MA_leaveEndedBlocks_59 (by decide) (fun c_59 => ?_) (fun c_59 => ?_)
            · refine lv_aload_n hx hb d_MA_leaveEndedBlocks_75 rfl (lv_at hl 3 rfl) ?_
              refine va_get (D := D) (ci := 5) (v := .ref (aA G 11)) (C := R_MA) (T := T_MA) (N := 5) hx hb hts (fun w h => List.mem_cons_of_mem _ (in_MA w h)) hown hK hP 9 (w_9 G S1) rfl 1 (by decide) (hts _ (List.mem_cons_of_mem _ kw91)) (fun _ h9 => h9) rfl d_MA_leaveEndedBlocks_76 ?_
              refine lv_aload_n hx hb d_MA_leaveEndedBlocks_79 rfl (lv_at hl 3 rfl) ?_
              refine va_get (D := D) (ci := 5) (v := .int (S1.2 9 3)) (C := R_MA) (T := T_MA) (N := 5) hx hb hts (fun w h => List.mem_cons_of_mem _ (in_MA w h)) hown hK hP 9 (w_9 G S1) rfl 3 (by decide) (hts _ (List.mem_cons_of_mem _ kw93)) (fun _ h9 => h9) rfl d_MA_leaveEndedBlocks_80 ?_
              refine lv_iconst (v := 1) hx hb d_MA_leaveEndedBlocks_83 (by decide) ?_
              refine lv_isub hx hb d_MA_leaveEndedBlocks_84 ?_
              refine lv_topi (fun x84 ex84 => ?_)
              refine lv_aload_n hx hb d_MA_leaveEndedBlocks_85 rfl (lv_at hl 1 rfl) ?_
              refine lv_iload hx hb d_MA_leaveEndedBlocks_86 (lv_at hl 0 rfl) ?_
              refine vp_callSi (W.runV (As := [.int x50]) (rest := [.int x84, .ref (aA G 11)]) ⟨hx, hb, hml, hown, hts⟩ (c_MT_behindBlock l D G S1 k14 x50 N hI hk14) (cwV 1 hts (gV kw322 kw323 kw324 kw2 kw325) rfl rfl rfl (by decide +kernel) ⟨by show (2 : Nat) + 1 ≤ 3; omega, by show 8 + (3 + 11) + 42 ≤ 64; omega⟩) ⟨blindR, va_recv (ci := 1) (q0 := 13 + 7 * k14) hK hP rfl (wt_0 G S1 hk14), fun U hU hW => ⟨rfl, rPre_of hP hK hN hU hW⟩⟩ rfl rfl hl.1 rfl (lv_room (Nat.le_of_ble_eq_true rfl)) d_MA_leaveEndedBlocks_88 ⟨Nat.zero_le _, Nat.zero_le _⟩) (fun x88 ex88 => ?_)
              refine va_iastE (D := D) hx hb hK hP hD hS 11 0 (w_11 G S1) rfl (by rw [ex84]; exact dm_in hI (ct_pos en14)) (wsta_11 G S1 x84.toNatClampNeg x88) d_MA_leaveEndedBlocks_91 (fun H locs hP hD hS => ?_)
              obtain ⟨S91, eS91⟩ : ∃ y : CS, y = stR S1 11 x84.toNatClampNeg x88 := ⟨_, rfl⟩
              rw [← eS91] at hP hD
              have hI : IC N S91 := by rw [eS91]; exact IC_A hI _ _ _ (by decide)
              obtain ⟨x92, ex92⟩ : ∃ y : Int32, y = y2 + 1 := ⟨_, rfl⟩
              refine lv_iinc (v := x92) (lv' := [(2, .int x92), (4, .int x50), (3, .ref (tA G k14 0)), (0, .ref (aA G 9)), (1, .ref (aA G 4))]) hx hb d_MA_leaveEndedBlocks_92 hl (k := 2) rfl (by rw [ex92]; rfl) (by decide) rfl (fun ls hl => ?_)
              refine lv_goto (tgt := 2) hx hb d_MA_leaveEndedBlocks_95 (by decide) ?_
              exact ih S91 x92 (j + 1) _ _ ls ⟨by rw [ex92, hj]; exact nI_1 j, by omega, by omega⟩ (by rw [hF]; subst ex92; subst eS91; subst ex88; subst ex84; subst ex56; subst ex50; subst ex49; subst ex31; subst ex30; subst ex29; simp only [q_MA_leaveEndedBlocks_2, if_neg c_6, if_neg hz14, ek14, if_pos c_36, if_pos c_59]) hP hD hS hI (lv_sub hl [0, 3, 4] rfl)
            · refine lv_aload_n hx hb d_MA_leaveEndedBlocks_62 rfl (lv_at hl 3 rfl) ?_
              refine lv_dup hx hb d_MA_leaveEndedBlocks_63 rfl ?_
              refine va_get (D := D) (ci := 5) (v := .int (S1.2 9 3)) (C := R_MA) (T := T_MA) (N := 5) hx hb hts (fun w h => List.mem_cons_of_mem _ (in_MA w h)) hown hK hP 9 (w_9 G S1) rfl 3 (by decide) (hts _ (List.mem_cons_of_mem _ kw93)) (fun _ h9 => h9) rfl d_MA_leaveEndedBlocks_64 ?_
              refine lv_iconst (v := 1) hx hb d_MA_leaveEndedBlocks_67 (by decide) ?_
              refine lv_isub hx hb d_MA_leaveEndedBlocks_68 ?_
              refine lv_topi (fun x68 ex68 => ?_)
              refine va_putE (D := D) (ci := 5) (v := .int x68) (ty := .int) (C := R_MA) (T := T_MA) (N := 5) hx hb hts (fun w h => List.mem_cons_of_mem _ (in_MA w h)) t_MA t_MA_ok n_MA hown hK hP hD hS 9 (w_9 G S1) rfl 3 (by decide) (hts _ (List.mem_cons_of_mem _ kw93)) (fun _ h9 => h9) rfl (by decide +kernel) rfl rfl (Nat.le_of_ble_eq_true rfl) (wst_9_3 G S1 x68) d_MA_leaveEndedBlocks_69 (fun H locs hP hD hS => ?_)
              obtain ⟨S69, eS69⟩ : ∃ y : CS, y = stR S1 9 3 x68 := ⟨_, rfl⟩
              rw [← eS69] at hP hD
              have hI : IC N S69 := by rw [eS69]; exact (have q := md_m hI (ct_pos en14); IC_md hI _ (by rw [ex68]; exact q.1) (by rw [ex68]; exact q.2))
              refine lv_goto (tgt := 92) hx hb d_MA_leaveEndedBlocks_72 (by decide) ?_
              obtain ⟨x92, ex92⟩ : ∃ y : Int32, y = y2 + 1 := ⟨_, rfl⟩
              refine lv_iinc (v := x92) (lv' := [(2, .int x92), (4, .int x50), (3, .ref (tA G k14 0)), (0, .ref (aA G 9)), (1, .ref (aA G 4))]) hx hb d_MA_leaveEndedBlocks_92 hl (k := 2) rfl (by rw [ex92]; rfl) (by decide) rfl (fun ls hl => ?_)
              refine lv_goto (tgt := 2) hx hb d_MA_leaveEndedBlocks_95 (by decide) ?_
              exact ih S69 x92 (j + 1) _ _ ls ⟨by rw [ex92, hj]; exact nI_1 j, by omega, by omega⟩ (by rw [hF]; subst ex92; subst eS69; subst ex68; subst ex56; subst ex50; subst ex49; subst ex31; subst ex30; subst ex29; simp only [q_MA_leaveEndedBlocks_2, if_neg c_6, if_neg hz14, ek14, if_pos c_36, if_neg c_59]) hP hD hS hI (lv_sub hl [0, 3, 4] rfl)
          · exact W.vret hx hb hr (fun t ht hW => ⟨⟨S1, rfl, ⟨by rw [hF]; subst ex31; subst ex30; subst ex29; simp only [q_MA_leaveEndedBlocks_2, if_neg c_6, if_neg hz14, ek14, if_neg c_36], hI⟩, by rw [ht]; exact hP, hD⟩, hS.F ht⟩) hS.2.2 d_MA_leaveEndedBlocks_39
  exact loop (fz 157) S 0 0 _ _ ls ⟨nI_0.symm, by omega, by rw [fz_eq]⟩ (by simp only [f_MA_leaveEndedBlocks]) hP hD hS hI hl
set_option maxHeartbeats 4000000 in
set_option maxRecDepth 100000 in
theorem c_MA_begin (l : Launch) (D : va_G) (G : GP) (S : CS) (sz : Nat) (N : Nat) (hI : IC N S) : Met l y_MA_begin ws_MA_begin ({ frames := 4, cells := 0, slots := 0, locals := 88 }) (va_Pc [.ref (aA G 9), .ref (aA G 4)] (cPre D G S sz)) (va_Qv (fun S' : CS => S' = f_MA_begin S ∧ IC N S') (wB D G (va_A (wC G S) sz)) (va_A (wC G S) sz)) 0 0 (va_A (wC G S) sz) := by
  refine Met.ofW (cc := b_MA_begin) (maxL := 2) (ret := none) (by decide) rfl ?_
  intro p e s m args below meth c s₁ B hml hv
  obtain ⟨rfl, hsz, hP, hK, hD0, hN⟩ := hv
  have hx := B.exec
  have hb := B.bytes
  have hr := B.returns
  have hts := atoms_spec (ws := ws_MA_begin) B.pre
  have hown : s.vm.findClass R_MA = some m.cls := findClass_of_methodNamed B.named
  have hlocks := B.notSynchronized
  subst hsz
  have hD := hD0.self (sz := s.heap.size)
  generalize hAe : va_A (wC G S) s.heap.size = A at hD ⊢
  have hA : ∀ q : Nat, s.heap.size ≤ q → A q := fun q h => by rw [← hAe]; exact Or.inr h
  have hS : va_S A s.heap s.heap [] := va_S.rf
  have hl := lv_entry ([.ref (aA G 9), .ref (aA G 4)]) (n := 2) (Nat.le_of_ble_eq_true rfl)
  rw [lg_entry_eq]
  generalize (lg_sl ([.ref (aA G 9), .ref (aA G 4)]) ++ List.replicate (2 - (lg_sl ([.ref (aA G 9), .ref (aA G 4)])).length) Slot.unset).toArray = ls at hl ⊢
  have hl : lv_has ls 2 [(0, .ref (aA G 9)), (1, .ref (aA G 4))] := hl
  refine lv_aload_n hx hb d_MA_begin_0 rfl (lv_at hl 0 rfl) ?_
  refine lv_iconst (v := 0) hx hb d_MA_begin_1 (by decide) ?_
  refine va_putE (D := D) (ci := 5) (v := .int 0) (ty := .int) (C := R_MA) (T := T_MA) (N := 5) hx hb hts (fun w h => List.mem_cons_of_mem _ (in_MA w h)) t_MA t_MA_ok n_MA hown hK hP hD hS 9 (w_9 G S) rfl 4 (by decide) (hts _ (List.mem_cons_of_mem _ kw94)) (fun _ h9 => h9) rfl (by decide +kernel) rfl rfl (Nat.le_of_ble_eq_true rfl) (wst_9_4 G S 0) d_MA_begin_2 (fun H locs hP hD hS => ?_)
  obtain ⟨S2, eS2⟩ : ∃ y : CS, y = stR S 9 4 0 := ⟨_, rfl⟩
  rw [← eS2] at hP hD
  have hI : IC N S2 := by rw [eS2]; exact IC_mo0 hI
  refine lv_aload_n hx hb d_MA_begin_5 rfl (lv_at hl 0 rfl) ?_
  refine lv_iconst (v := 0) hx hb d_MA_begin_6 (by decide) ?_
  refine va_putE (D := D) (ci := 5) (v := .int 0) (ty := .int) (C := R_MA) (T := T_MA) (N := 5) hx hb hts (fun w h => List.mem_cons_of_mem _ (in_MA w h)) t_MA t_MA_ok n_MA hown hK hP hD hS 9 (w_9 G S2) rfl 3 (by decide) (hts _ (List.mem_cons_of_mem _ kw93)) (fun _ h9 => h9) rfl (by decide +kernel) rfl rfl (Nat.le_of_ble_eq_true rfl) (wst_9_3 G S2 0) d_MA_begin_7 (fun H locs hP hD hS => ?_)
  obtain ⟨S7, eS7⟩ : ∃ y : CS, y = stR S2 9 3 0 := ⟨_, rfl⟩
  rw [← eS7] at hP hD
  have hI : IC N S7 := by rw [eS7]; exact IC_md0 hI
  refine lv_aload_n hx hb d_MA_begin_10 rfl (lv_at hl 0 rfl) ?_
  refine lv_aload_n hx hb d_MA_begin_11 rfl (lv_at hl 1 rfl) ?_
  refine lv_bipush (v := 12) hx hb d_MA_begin_12 (by decide) ?_
  refine cq_v (va_runV (As := [.ref (aA G 4), .int 12]) (rest := []) ⟨hx, hb, hml, hown, hts⟩ (c_MA_enter l D G S7 _ 12 N hI) (cwV 2 hts (gV kw299 kw300 kw643 kw6 kw301) rfl rfl rfl (by decide +kernel) ⟨by show (2 : Nat) + 1 ≤ 4; omega, by show 8 + (4 + 11) + 41 ≤ 88; omega⟩) ⟨blindC, va_recv (ci := 5) (q0 := 9) hK hP rfl (w_9 G S7), fun U hU hW => ⟨rfl, cPre_of hP hK hD hN hU hW⟩⟩ rfl rfl hl.1 rfl (lv_room (Nat.le_of_ble_eq_true rfl)) d_MA_begin_14 ⟨Nat.zero_le _, Nat.zero_le _⟩) hD hS hA (fun S14 H locs hw hP hD hS => ?_)
  obtain ⟨eS14, hI⟩ := hw
  refine lv_aload_n hx hb d_MA_begin_17 rfl (lv_at hl 0 rfl) ?_
  refine lv_aload_n hx hb d_MA_begin_18 rfl (lv_at hl 1 rfl) ?_
  refine cq_v (va_runV (As := [.ref (aA G 4)]) (rest := []) ⟨hx, hb, hml, hown, hts⟩ (c_MA_leaveEndedBlocks l D G S14 _ N hI) (cwV 1 hts (gV kw310 kw311 kw644 kw6 kw312) rfl rfl rfl (by decide +kernel) ⟨by show (3 : Nat) + 1 ≤ 4; omega, by show 8 + (5 + 11) + 64 ≤ 88; omega⟩) ⟨blindC, va_recv (ci := 5) (q0 := 9) hK hP rfl (w_9 G S14), fun U hU hW => ⟨rfl, cPre_of hP hK hD hN hU hW⟩⟩ rfl rfl hl.1 rfl (lv_room (Nat.le_of_ble_eq_true rfl)) d_MA_begin_19 ⟨Nat.zero_le _, Nat.zero_le _⟩) hD hS hA (fun S19 H locs hw hP hD hS => ?_)
  obtain ⟨eS19, hI⟩ := hw
  exact W.vret hx hb hr (fun t ht hW => ⟨⟨S19, rfl, ⟨by subst eS19; subst eS14; subst eS7; subst eS2; simp only [f_MA_begin], hI⟩, by rw [ht]; exact hP, hD⟩, hS.F ht⟩) hS.2.2 d_MA_begin_22
set_option maxHeartbeats 4000000 in
set_option maxRecDepth 100000 in
theorem c_MA_keep (l : Launch) (D : va_G) (G : GP) (S : CS) (sz : Nat) (p1 : Int32) (N : Nat) (hI : IC N S) (hNB : N < 1000000) : Met l y_MA_keep ws_MA_keep ({ frames := 0, cells := 0, slots := 0, locals := 0 }) (va_Pc [.ref (aA G 9), .int p1] (cPre D G S sz)) (va_Qv (fun S' : CS => S' = f_MA_keep S p1 ∧ IC (N + 1) S') (wB D G (va_A (wC G S) sz)) (va_A (wC G S) sz)) 0 0 (va_A (wC G S) sz) := by
  refine Met.ofW (cc := b_MA_keep) (maxL := 2) (ret := none) (by decide) rfl ?_
  intro p e s m args below meth c s₁ B hml hv
  obtain ⟨rfl, hsz, hP, hK, hD0, hN⟩ := hv
  have hx := B.exec
  have hb := B.bytes
  have hr := B.returns
  have hts := atoms_spec (ws := ws_MA_keep) B.pre
  have hown : s.vm.findClass R_MA = some m.cls := findClass_of_methodNamed B.named
  have hlocks := B.notSynchronized
  subst hsz
  have hD := hD0.self (sz := s.heap.size)
  generalize hAe : va_A (wC G S) s.heap.size = A at hD ⊢
  have hA : ∀ q : Nat, s.heap.size ≤ q → A q := fun q h => by rw [← hAe]; exact Or.inr h
  have hS : va_S A s.heap s.heap [] := va_S.rf
  have hl := lv_entry ([.ref (aA G 9), .int p1]) (n := 2) (Nat.le_of_ble_eq_true rfl)
  rw [lg_entry_eq]
  generalize (lg_sl ([.ref (aA G 9), .int p1]) ++ List.replicate (2 - (lg_sl ([.ref (aA G 9), .int p1])).length) Slot.unset).toArray = ls at hl ⊢
  have hl : lv_has ls 2 [(0, .ref (aA G 9)), (1, .int p1)] := hl
  have hI0 := hI
  refine lv_aload_n hx hb d_MA_keep_0 rfl (lv_at hl 0 rfl) ?_
  refine va_get (D := D) (ci := 5) (v := .int (S.2 9 4)) (C := R_MA) (T := T_MA) (N := 5) hx hb hts (fun w h => List.mem_cons_of_mem _ (in_MA w h)) hown hK hP 9 (w_9 G S) rfl 4 (by decide) (hts _ (List.mem_cons_of_mem _ kw94)) (fun _ h9 => h9) rfl d_MA_keep_1 ?_
  refine lv_bipush (v := 24) hx hb d_MA_keep_4 (by decide) ?_
  refine lv_icmp_ge (tgt := 19) hx hb d_MA_keep_6 (by decide) (fun c_6 => ?_) (fun c_6 => ?_)
  · refine lv_aload_n hx hb d_MA_keep_19 rfl (lv_at hl 0 rfl) ?_
    refine lv_dup hx hb d_MA_keep_20 rfl ?_
    refine va_get (D := D) (ci := 5) (v := .int (S.2 9 4)) (C := R_MA) (T := T_MA) (N := 5) hx hb hts (fun w h => List.mem_cons_of_mem _ (in_MA w h)) hown hK hP 9 (w_9 G S) rfl 4 (by decide) (hts _ (List.mem_cons_of_mem _ kw94)) (fun _ h9 => h9) rfl d_MA_keep_21 ?_
    refine lv_iconst (v := 1) hx hb d_MA_keep_24 (by decide) ?_
    refine lv_iadd hx hb d_MA_keep_25 ?_
    refine lv_topi (fun x25 ex25 => ?_)
    refine va_putE (D := D) (ci := 5) (v := .int x25) (ty := .int) (C := R_MA) (T := T_MA) (N := 5) hx hb hts (fun w h => List.mem_cons_of_mem _ (in_MA w h)) t_MA t_MA_ok n_MA hown hK hP hD hS 9 (w_9 G S) rfl 4 (by decide) (hts _ (List.mem_cons_of_mem _ kw94)) (fun _ h9 => h9) rfl (by decide +kernel) rfl rfl (Nat.le_of_ble_eq_true rfl) (wst_9_4 G S x25) d_MA_keep_26 (fun H locs hP hD hS => ?_)
    obtain ⟨S26, eS26⟩ : ∃ y : CS, y = stR S 9 4 x25 := ⟨_, rfl⟩
    rw [← eS26] at hP hD
    have hI : IC (N + 1) S26 := by rw [eS26]; exact (have q := mo_p hI0 hNB; IC_mo hI _ (by first | (rw [ex25, eS18]; exact q.1) | (rw [ex25]; exact q.1)) (by first | (rw [ex25, eS18]; exact q.2) | (rw [ex25]; exact q.2)))
    exact W.vret hx hb hr (fun t ht hW => ⟨⟨S26, rfl, ⟨by subst eS26; subst ex25; simp only [f_MA_keep, if_pos c_6], hI⟩, by rw [ht]; exact hP, hD⟩, hS.F ht⟩) hS.2.2 d_MA_keep_29
  · refine lv_aload_n hx hb d_MA_keep_9 rfl (lv_at hl 0 rfl) ?_
    refine va_get (D := D) (ci := 5) (v := .ref (aA G 12)) (C := R_MA) (T := T_MA) (N := 5) hx hb hts (fun w h => List.mem_cons_of_mem _ (in_MA w h)) hown hK hP 9 (w_9 G S) rfl 2 (by decide) (hts _ (List.mem_cons_of_mem _ kw92)) (fun _ h9 => h9) rfl d_MA_keep_10 ?_
    refine lv_aload_n hx hb d_MA_keep_13 rfl (lv_at hl 0 rfl) ?_
    refine va_get (D := D) (ci := 5) (v := .int (S.2 9 4)) (C := R_MA) (T := T_MA) (N := 5) hx hb hts (fun w h => List.mem_cons_of_mem _ (in_MA w h)) hown hK hP 9 (w_9 G S) rfl 4 (by decide) (hts _ (List.mem_cons_of_mem _ kw94)) (fun _ h9 => h9) rfl d_MA_keep_14 ?_
    refine lv_iload_n hx hb d_MA_keep_17 rfl (lv_at hl 1 rfl) ?_
    refine va_iastE (D := D) hx hb hK hP hD hS 12 0 (w_12 G S) rfl (ko_in hI (i_nle 24 rfl c_6)) (wsta_12 G S (S.2 9 4).toNatClampNeg p1) d_MA_keep_18 (fun H locs hP hD hS => ?_)
    obtain ⟨S18, eS18⟩ : ∃ y : CS, y = stR S 12 (S.2 9 4).toNatClampNeg p1 := ⟨_, rfl⟩
    rw [← eS18] at hP hD
    have hI : IC N S18 := by rw [eS18]; exact IC_A hI _ _ _ (by decide)
    refine lv_aload_n hx hb d_MA_keep_19 rfl (lv_at hl 0 rfl) ?_
    refine lv_dup hx hb d_MA_keep_20 rfl ?_
    refine va_get (D := D) (ci := 5) (v := .int (S18.2 9 4)) (C := R_MA) (T := T_MA) (N := 5) hx hb hts (fun w h => List.mem_cons_of_mem _ (in_MA w h)) hown hK hP 9 (w_9 G S18) rfl 4 (by decide) (hts _ (List.mem_cons_of_mem _ kw94)) (fun _ h9 => h9) rfl d_MA_keep_21 ?_
    refine lv_iconst (v := 1) hx hb d_MA_keep_24 (by decide) ?_
    refine lv_iadd hx hb d_MA_keep_25 ?_
    refine lv_topi (fun x25 ex25 => ?_)
    refine va_putE (D := D) (ci := 5) (v := .int x25) (ty := .int) (C := R_MA) (T := T_MA) (N := 5) hx hb hts (fun w h => List.mem_cons_of_mem _ (in_MA w h)) t_MA t_MA_ok n_MA hown hK hP hD hS 9 (w_9 G S18) rfl 4 (by decide) (hts _ (List.mem_cons_of_mem _ kw94)) (fun _ h9 => h9) rfl (by decide +kernel) rfl rfl (Nat.le_of_ble_eq_true rfl) (wst_9_4 G S18 x25) d_MA_keep_26 (fun H locs hP hD hS => ?_)
    obtain ⟨S26, eS26⟩ : ∃ y : CS, y = stR S18 9 4 x25 := ⟨_, rfl⟩
    rw [← eS26] at hP hD
    have hI : IC (N + 1) S26 := by rw [eS26]; exact (have q := mo_p hI0 hNB; IC_mo hI _ (by first | (rw [ex25, eS18]; exact q.1) | (rw [ex25]; exact q.1)) (by first | (rw [ex25, eS18]; exact q.2) | (rw [ex25]; exact q.2)))
    exact W.vret hx hb hr (fun t ht hW => ⟨⟨S26, rfl, ⟨by subst eS26; subst ex25; subst eS18; simp only [f_MA_keep, if_neg c_6], hI⟩, by rw [ht]; exact hP, hD⟩, hS.F ht⟩) hS.2.2 d_MA_keep_29
set_option maxHeartbeats 4000000 in
set_option maxRecDepth 100000 in
theorem c_MA_placeBehind (l : Launch) (D : va_G) (G : GP) (S : CS) (sz : Nat) (k : Nat) (p2 : Int32) (N : Nat) (hI : IC N S) (hk : k < 3) (hNB : N < 1000000) : Met l y_MA_placeBehind ws_MA_placeBehind ({ frames := 20, cells := 0, slots := 0, locals := 557 }) (va_Pc [.ref (aA G 9), .ref (tA G k 0), .int p2, .ref (aA G 7)] (cPre D G S sz)) (va_Qi (fun (r : Int32) (S' : CS) => (r, S') = f_MA_placeBehind S k p2 ∧ IC (N + 1) S') (wB D G (va_A (wC G S) sz)) (va_A (wC G S) sz)) 0 0 (va_A (wC G S) sz) := by
  refine Met.ofW (cc := b_MA_placeBehind) (maxL := 8) (ret := (some .int)) (by decide) rfl ?_
  intro p e s m args below meth c s₁ B hml hv
  obtain ⟨rfl, hsz, hP, hK, hD0, hN⟩ := hv
  have hx := B.exec
  have hb := B.bytes
  have hr := B.returns
  have hts := atoms_spec (ws := ws_MA_placeBehind) B.pre
  have hown : s.vm.findClass R_MA = some m.cls := findClass_of_methodNamed B.named
  have hlocks := B.notSynchronized
  subst hsz
  have hD := hD0.self (sz := s.heap.size)
  generalize hAe : va_A (wC G S) s.heap.size = A at hD ⊢
  have hA : ∀ q : Nat, s.heap.size ≤ q → A q := fun q h => by rw [← hAe]; exact Or.inr h
  have hS : va_S A s.heap s.heap [] := va_S.rf
  have hl := lv_entry ([.ref (aA G 9), .ref (tA G k 0), .int p2, .ref (aA G 7)]) (n := 8) (Nat.le_of_ble_eq_true rfl)
  rw [lg_entry_eq]
  generalize (lg_sl ([.ref (aA G 9), .ref (tA G k 0), .int p2, .ref (aA G 7)]) ++ List.replicate (8 - (lg_sl ([.ref (aA G 9), .ref (tA G k 0), .int p2, .ref (aA G 7)])).length) Slot.unset).toArray = ls at hl ⊢
  have hl : lv_has ls 8 [(0, .ref (aA G 9)), (1, .ref (tA G k 0)), (2, .int p2), (3, .ref (aA G 7))] := hl
  refine lv_aload_n hx hb d_MA_placeBehind_0 rfl (lv_at hl 1 rfl) ?_
  refine lv_iload_n hx hb d_MA_placeBehind_1 rfl (lv_at hl 2 rfl) ?_
  refine vp_callSi (W.runV (As := [.int p2]) (rest := []) ⟨hx, hb, hml, hown, hts⟩ (c_MT_signAt l D G S k p2 N hI hk) (cwV 1 hts (gV kw316 kw160 kw161 kw2 kw162) rfl rfl rfl (by decide +kernel) ⟨by show (0 : Nat) + 1 ≤ 20; omega, by show 8 + (2 + 11) + 0 ≤ 557; omega⟩) ⟨blindR, va_recv (ci := 1) (q0 := 13 + 7 * k) hK hP rfl (wt_0 G S hk), fun U hU hW => ⟨rfl, rPre_of hP hK hN hU hW⟩⟩ rfl rfl hl.1 rfl (lv_room (Nat.le_of_ble_eq_true rfl)) d_MA_placeBehind_2 ⟨Nat.zero_le _, Nat.zero_le _⟩) (fun x2 ex2 => ?_)
  refine lv_istore (lv' := [(4, .int x2), (0, .ref (aA G 9)), (1, .ref (tA G k 0)), (2, .int p2), (3, .ref (aA G 7))]) hx hb d_MA_placeBehind_5 hl (by decide) rfl (fun ls hl => ?_)
  refine lv_iload hx hb d_MA_placeBehind_7 (lv_at hl 0 rfl) ?_
  refine vp_callSi (va_runSN (As := [.int x2]) (rest := []) ⟨hx, hb, hml, hown, hts⟩ (c_GS_isVariable l x2) ⟨va_cnB 1 hts (gW kw202) rfl rfl rfl (hN.1 (R_MA, 69, y_GS_isVariable, "GateStack") (by decide +kernel)) (hts _ (List.mem_cons_of_mem _ kw1)) (by decide +kernel) ⟨by show (0 : Nat) + 1 ≤ 20; omega, by show 8 + (1 + 11) + 0 ≤ 557; omega⟩, (hts _ (List.mem_cons_of_mem _ kw201)), trivial⟩ ⟨blindP, fun U hU hW => ⟨rfl, NW_warm hW hN⟩⟩ rfl rfl hl.1 rfl (lv_room (Nat.le_of_ble_eq_true rfl)) d_MA_placeBehind_9 ⟨Nat.zero_le _, Nat.zero_le _⟩).run (fun x9 ex9 => ?_)
  obtain ⟨ex9, bx9⟩ := ex9
  refine lv_istore (lv' := [(5, .int x9), (4, .int x2), (0, .ref (aA G 9)), (1, .ref (tA G k 0)), (2, .int p2), (3, .ref (aA G 7))]) hx hb d_MA_placeBehind_12 hl (by decide) rfl (fun ls hl => ?_)
  refine lv_aload_n hx hb d_MA_placeBehind_14 rfl (lv_at hl 5 rfl) ?_
  refine lv_aload_n hx hb d_MA_placeBehind_15 rfl (lv_at hl 3 rfl) ?_
  refine lv_iload hx hb d_MA_placeBehind_16 (lv_at hl 0 rfl) ?_
  refine lv_if_eq (tgt := 27) hx hb d_MA_placeBehind_18 (by decide) (fun c_18 => ?_) (fun c_18 => ?_)
  · refine lv_iload_n hx hb d_MA_placeBehind_27 rfl (lv_at hl 4 rfl) ?_
    refine lv_iconst (v := 1) hx hb d_MA_placeBehind_28 (by decide) ?_
    refine lv_iadd hx hb d_MA_placeBehind_29 ?_
    refine lv_topi (fun x29 ex29 => ?_)
    refine cq_i (va_runV (As := [.ref (tA G k 0), .int x29]) (rest := []) ⟨hx, hb, hml, hown, hts⟩ (c_CA_valueAt l D G S _ k x29 N hI hk) (cwV 2 hts (gV kw340 kw341 kw342 kw5 kw343) rfl rfl rfl (by decide +kernel) ⟨by show (19 : Nat) + 1 ≤ 20; omega, by show 8 + (3 + 11) + 535 ≤ 557; omega⟩) ⟨blindC, va_recv (ci := 4) (q0 := 7) hK hP rfl (w_7 G S), fun U hU hW => ⟨rfl, cPre_of hP hK hD hN hU hW⟩⟩ rfl rfl hl.1 rfl (lv_room (Nat.le_of_ble_eq_true rfl)) d_MA_placeBehind_30 ⟨Nat.zero_le _, Nat.zero_le _⟩) hD hS hA (fun x30 S30 H locs hw hP hD hS => ?_)
    obtain ⟨hw, hI⟩ := hw
    have ex30 : x30 = (f_CA_valueAt S k x29).1 := congrArg Prod.fst hw
    have eS30 : S30 = (f_CA_valueAt S k x29).2 := congrArg Prod.snd hw
    clear hw
    refine lv_istore (lv' := [(6, .int x30), (5, .int x9), (4, .int x2), (0, .ref (aA G 9)), (1, .ref (tA G k 0)), (2, .int p2), (3, .ref (aA G 7))]) hx hb d_MA_placeBehind_33 hl (by decide) rfl (fun ls hl => ?_)
    refine lv_aload_n hx hb d_MA_placeBehind_35 rfl (lv_at hl 6 rfl) ?_
    refine vp_callSi (W.runV (As := []) (rest := []) ⟨hx, hb, hml, hown, hts⟩ (c_CA_cursor l D G S30 N hI) (cwV 0 hts (gV kw356 kw357 kw358 kw5 kw359) rfl rfl rfl (by decide +kernel) ⟨by show (0 : Nat) + 1 ≤ 20; omega, by show 8 + (1 + 11) + 0 ≤ 557; omega⟩) ⟨blindR, va_recv (ci := 4) (q0 := 7) hK hP rfl (w_7 G S30), fun U hU hW => ⟨rfl, rPre_of hP hK hN hU hW⟩⟩ rfl rfl hl.1 rfl (lv_room (Nat.le_of_ble_eq_true rfl)) d_MA_placeBehind_36 ⟨Nat.zero_le _, Nat.zero_le _⟩) (fun x36 ex36 => ?_)
    refine lv_iconst (v := 1) hx hb d_MA_placeBehind_39 (by decide) ?_
    refine lv_iadd hx hb d_MA_placeBehind_40 ?_
    refine lv_topi (fun x40 ex40 => ?_)
    refine lv_istore (lv' := [(7, .int x40), (6, .int x30), (5, .int x9), (4, .int x2), (0, .ref (aA G 9)), (1, .ref (tA G k 0)), (2, .int p2), (3, .ref (aA G 7))]) hx hb d_MA_placeBehind_41 hl (by decide) rfl (fun ls hl => ?_)
    refine lv_iload hx hb d_MA_placeBehind_43 (lv_at hl 2 rfl) ?_
    refine lv_if_eq (tgt := 63) hx hb d_MA_placeBehind_45 (by decide) (fun c_45 => ?_) (fun c_45 => ?_)
    · refine lv_iload hx hb d_MA_placeBehind_63 (lv_at hl 3 rfl) ?_
      refine lv_bipush (v := 33) hx hb d_MA_placeBehind_65 (by decide) ?_
      refine lv_icmp_ne (tgt := 79) hx hb d_MA_placeBehind_67 (by decide) (fun c_67 => ?_) (fun c_67 => ?_)
      · refine lv_iload hx hb d_MA_placeBehind_79 (lv_at hl 1 rfl) ?_
        refine lv_if_eq (tgt := 89) hx hb d_MA_placeBehind_81 (by decide) (fun c_81 => ?_) (fun c_81 => ?_)
        · refine lv_aload_n hx hb d_MA_placeBehind_89 rfl (lv_at hl 5 rfl) ?_
          refine lv_iload_n hx hb d_MA_placeBehind_90 rfl (lv_at hl 6 rfl) ?_
          refine vp_callSi (W.runV (As := [.int p2]) (rest := []) ⟨hx, hb, hml, hown, hts⟩ (c_MT_placeIfZero l D G S30 k p2 N hI hk) (cwV 1 hts (gV kw369 kw370 kw371 kw2 kw372) rfl rfl rfl (by decide +kernel) ⟨by show (2 : Nat) + 1 ≤ 20; omega, by show 8 + (3 + 11) + 42 ≤ 557; omega⟩) ⟨blindR, va_recv (ci := 1) (q0 := 13 + 7 * k) hK hP rfl (wt_0 G S30 hk), fun U hU hW => ⟨rfl, rPre_of hP hK hN hU hW⟩⟩ rfl rfl hl.1 rfl (lv_room (Nat.le_of_ble_eq_true rfl)) d_MA_placeBehind_91 ⟨Nat.zero_le _, Nat.zero_le _⟩) (fun x91 ex91 => ?_)
          exact W.iret (v := x91) hx hb hr (fun t ht hW => ⟨⟨x91, S30, rfl, ⟨by subst ex91; subst ex40; subst ex36; subst eS30; subst ex30; subst ex29; subst ex9; subst ex2; simp only [f_MA_placeBehind, if_pos c_18, if_neg c_67, if_pos c_81], (IC_mono hI (by omega))⟩, by rw [ht]; exact hP, hD⟩, hS.F ht⟩) hS.2.2 d_MA_placeBehind_94
        · refine lv_iload hx hb d_MA_placeBehind_84 (lv_at hl 0 rfl) ?_
          refine lv_goto (tgt := 94) hx hb d_MA_placeBehind_86 (by decide) ?_
          exact W.iret (v := x40) hx hb hr (fun t ht hW => ⟨⟨x40, S30, rfl, ⟨by subst ex40; subst ex36; subst eS30; subst ex30; subst ex29; subst ex9; subst ex2; simp only [f_MA_placeBehind, if_pos c_18, if_neg c_67, if_neg c_81], (IC_mono hI (by omega))⟩, by rw [ht]; exact hP, hD⟩, hS.F ht⟩) hS.2.2 d_MA_placeBehind_94
      · refine lv_aload_n hx hb d_MA_placeBehind_70 rfl (lv_at hl 4 rfl) ?_
        refine lv_iload hx hb d_MA_placeBehind_71 (lv_at hl 1 rfl) ?_
        refine cq_v (va_runV (As := [.int x30]) (rest := []) ⟨hx, hb, hml, hown, hts⟩ (c_MA_keep l D G S30 _ x30 N hI hNB) (cwV 1 hts (gV kw366 kw367 kw651 kw6 kw368) rfl rfl rfl (by decide +kernel) ⟨by show (0 : Nat) + 1 ≤ 20; omega, by show 8 + (2 + 11) + 0 ≤ 557; omega⟩) ⟨blindC, va_recv (ci := 5) (q0 := 9) hK hP rfl (w_9 G S30), fun U hU hW => ⟨rfl, cPre_of hP hK hD hN hU hW⟩⟩ rfl rfl hl.1 rfl (lv_room (Nat.le_of_ble_eq_true rfl)) d_MA_placeBehind_73 ⟨Nat.zero_le _, Nat.zero_le _⟩) hD hS hA (fun S73 H locs hw hP hD hS => ?_)
        obtain ⟨eS73, hI⟩ := hw
        refine lv_iload hx hb d_MA_placeBehind_76 (lv_at hl 0 rfl) ?_
        exact W.iret (v := x40) hx hb hr (fun t ht hW => ⟨⟨x40, S73, rfl, ⟨by subst eS73; subst ex40; subst ex36; subst eS30; subst ex30; subst ex29; subst ex9; subst ex2; simp only [f_MA_placeBehind, if_pos c_18, if_pos c_67], hI⟩, by rw [ht]; exact hP, hD⟩, hS.F ht⟩) hS.2.2 d_MA_placeBehind_78
    · exact absurd c_18 c_45
  · refine lv_iload_n hx hb d_MA_placeBehind_21 rfl (lv_at hl 4 rfl) ?_
    refine lv_iconst (v := 2) hx hb d_MA_placeBehind_22 (by decide) ?_
    refine lv_iadd hx hb d_MA_placeBehind_23 ?_
    refine lv_topi (fun x23 ex23 => ?_)
    refine lv_goto (tgt := 30) hx hb d_MA_placeBehind_24 (by decide) ?_
    refine cq_i (va_runV (As := [.ref (tA G k 0), .int x23]) (rest := []) ⟨hx, hb, hml, hown, hts⟩ (c_CA_valueAt l D G S _ k x23 N hI hk) (cwV 2 hts (gV kw340 kw341 kw342 kw5 kw343) rfl rfl rfl (by decide +kernel) ⟨by show (19 : Nat) + 1 ≤ 20; omega, by show 8 + (3 + 11) + 535 ≤ 557; omega⟩) ⟨blindC, va_recv (ci := 4) (q0 := 7) hK hP rfl (w_7 G S), fun U hU hW => ⟨rfl, cPre_of hP hK hD hN hU hW⟩⟩ rfl rfl hl.1 rfl (lv_room (Nat.le_of_ble_eq_true rfl)) d_MA_placeBehind_30 ⟨Nat.zero_le _, Nat.zero_le _⟩) hD hS hA (fun x30 S30 H locs hw hP hD hS => ?_)
    obtain ⟨hw, hI⟩ := hw
    have ex30 : x30 = (f_CA_valueAt S k x23).1 := congrArg Prod.fst hw
    have eS30 : S30 = (f_CA_valueAt S k x23).2 := congrArg Prod.snd hw
    clear hw
    refine lv_istore (lv' := [(6, .int x30), (5, .int x9), (4, .int x2), (0, .ref (aA G 9)), (1, .ref (tA G k 0)), (2, .int p2), (3, .ref (aA G 7))]) hx hb d_MA_placeBehind_33 hl (by decide) rfl (fun ls hl => ?_)
    refine lv_aload_n hx hb d_MA_placeBehind_35 rfl (lv_at hl 6 rfl) ?_
    refine vp_callSi (W.runV (As := []) (rest := []) ⟨hx, hb, hml, hown, hts⟩ (c_CA_cursor l D G S30 N hI) (cwV 0 hts (gV kw356 kw357 kw358 kw5 kw359) rfl rfl rfl (by decide +kernel) ⟨by show (0 : Nat) + 1 ≤ 20; omega, by show 8 + (1 + 11) + 0 ≤ 557; omega⟩) ⟨blindR, va_recv (ci := 4) (q0 := 7) hK hP rfl (w_7 G S30), fun U hU hW => ⟨rfl, rPre_of hP hK hN hU hW⟩⟩ rfl rfl hl.1 rfl (lv_room (Nat.le_of_ble_eq_true rfl)) d_MA_placeBehind_36 ⟨Nat.zero_le _, Nat.zero_le _⟩) (fun x36 ex36 => ?_)
    refine lv_iconst (v := 1) hx hb d_MA_placeBehind_39 (by decide) ?_
    refine lv_iadd hx hb d_MA_placeBehind_40 ?_
    refine lv_topi (fun x40 ex40 => ?_)
    refine lv_istore (lv' := [(7, .int x40), (6, .int x30), (5, .int x9), (4, .int x2), (0, .ref (aA G 9)), (1, .ref (tA G k 0)), (2, .int p2), (3, .ref (aA G 7))]) hx hb d_MA_placeBehind_41 hl (by decide) rfl (fun ls hl => ?_)
    refine lv_iload hx hb d_MA_placeBehind_43 (lv_at hl 2 rfl) ?_
    refine lv_if_eq (tgt := 63) hx hb d_MA_placeBehind_45 (by decide) (fun c_45 => ?_) (fun c_45 => ?_)
    · exact absurd c_45 c_18
    · refine lv_aload_n hx hb d_MA_placeBehind_48 rfl (lv_at hl 7 rfl) ?_
      refine lv_iload hx hb d_MA_placeBehind_49 (lv_at hl 3 rfl) ?_
      refine lv_bipush (v := 97) hx hb d_MA_placeBehind_51 (by decide) ?_
      refine lv_isub hx hb d_MA_placeBehind_53 ?_
      refine lv_topi (fun x53 ex53 => ?_)
      refine lv_iload hx hb d_MA_placeBehind_54 (lv_at hl 1 rfl) ?_
      refine cq_i (va_runV (As := [.int x53, .int x30]) (rest := []) ⟨hx, hb, hml, hown, hts⟩ (c_CA_assign l D G S30 _ x53 x30 N hI) (cwV 2 hts (gV kw360 kw361 kw362 kw5 kw363) rfl rfl rfl (by decide +kernel) ⟨by show (1 : Nat) + 1 ≤ 20; omega, by show 8 + (3 + 11) + 20 ≤ 557; omega⟩) ⟨blindC, va_recv (ci := 4) (q0 := 7) hK hP rfl (w_7 G S30), fun U hU hW => ⟨rfl, cPre_of hP hK hD hN hU hW⟩⟩ rfl rfl hl.1 rfl (lv_room (Nat.le_of_ble_eq_true rfl)) d_MA_placeBehind_56 ⟨Nat.zero_le _, Nat.zero_le _⟩) hD hS hA (fun x56 S56 H locs hw hP hD hS => ?_)
      obtain ⟨hw, hI, bx56⟩ := hw
      have ex56 : x56 = (f_CA_assign S30 x53 x30).1 := congrArg Prod.fst hw
      have eS56 : S56 = (f_CA_assign S30 x53 x30).2 := congrArg Prod.snd hw
      clear hw
      refine lv_pop hx hb d_MA_placeBehind_59 rfl ?_
      refine lv_iload hx hb d_MA_placeBehind_60 (lv_at hl 0 rfl) ?_
      exact W.iret (v := x40) hx hb hr (fun t ht hW => ⟨⟨x40, S56, rfl, ⟨by subst eS56; subst ex56; subst ex53; subst ex40; subst ex36; subst eS30; subst ex30; subst ex23; subst ex9; subst ex2; simp only [f_MA_placeBehind, if_neg c_18], (IC_mono hI (by omega))⟩, by rw [ht]; exact hP, hD⟩, hS.F ht⟩) hS.2.2 d_MA_placeBehind_62
set_option maxHeartbeats 4000000 in
set_option maxRecDepth 100000 in
theorem c_MA_step (l : Launch) (D : va_G) (G : GP) (S : CS) (sz : Nat) (N : Nat) (hI : IC N S) (hNB : N < 1000000) : Met l y_MA_step ws_MA_step ({ frames := 21, cells := 0, slots := 0, locals := 584 }) (va_Pc [.ref (aA G 9), .ref (aA G 4), .ref (aA G 7)] (cPre D G S sz)) (va_Qv (fun S' : CS => S' = f_MA_step S ∧ IC (N + 1) S') (wB D G (va_A (wC G S) sz)) (va_A (wC G S) sz)) 0 0 (va_A (wC G S) sz) := by
  refine Met.ofW (cc := b_MA_step) (maxL := 7) (ret := none) (by decide) rfl ?_
  intro p e s m args below meth c s₁ B hml hv
  obtain ⟨rfl, hsz, hP, hK, hD0, hN⟩ := hv
  have hx := B.exec
  have hb := B.bytes
  have hr := B.returns
  have hts := atoms_spec (ws := ws_MA_step) B.pre
  have hown : s.vm.findClass R_MA = some m.cls := findClass_of_methodNamed B.named
  have hlocks := B.notSynchronized
  subst hsz
  have hD := hD0.self (sz := s.heap.size)
  generalize hAe : va_A (wC G S) s.heap.size = A at hD ⊢
  have hA : ∀ q : Nat, s.heap.size ≤ q → A q := fun q h => by rw [← hAe]; exact Or.inr h
  have hS : va_S A s.heap s.heap [] := va_S.rf
  have hl := lv_entry ([.ref (aA G 9), .ref (aA G 4), .ref (aA G 7)]) (n := 7) (Nat.le_of_ble_eq_true rfl)
  rw [lg_entry_eq]
  generalize (lg_sl ([.ref (aA G 9), .ref (aA G 4), .ref (aA G 7)]) ++ List.replicate (7 - (lg_sl ([.ref (aA G 9), .ref (aA G 4), .ref (aA G 7)])).length) Slot.unset).toArray = ls at hl ⊢
  have hl : lv_has ls 7 [(0, .ref (aA G 9)), (1, .ref (aA G 4)), (2, .ref (aA G 7))] := hl
  have hI0 := hI
  refine lv_aload_n hx hb d_MA_step_0 rfl (lv_at hl 0 rfl) ?_
  refine lv_aload_n hx hb d_MA_step_1 rfl (lv_at hl 1 rfl) ?_
  refine va_csq (W.runV (As := [.ref (aA G 4)]) (rest := []) ⟨hx, hb, hml, hown, hts⟩ (c_MA_currentText l D G S N hI) (cwV 1 hts (gV kw313 kw314 kw645 kw6 kw315) rfl rfl rfl (by decide +kernel) ⟨by show (2 : Nat) + 1 ≤ 21; omega, by show 8 + (2 + 11) + 41 ≤ 584; omega⟩) ⟨blindR, va_recv (ci := 5) (q0 := 9) hK hP rfl (w_9 G S), fun U hU hW => ⟨rfl, rPre_of hP hK hN hU hW⟩⟩ rfl rfl hl.1 rfl (lv_room (Nat.le_of_ble_eq_true rfl)) d_MA_step_2 ⟨Nat.zero_le _, Nat.zero_le _⟩) (fun rn2 en2 => ?_)
  rw [en2]
  obtain ⟨n5, en5⟩ : ∃ y : Nat, y = f_MA_currentText S := ⟨_, rfl⟩
  rw [← en5]
  rcases Nat.eq_zero_or_pos n5 with c_5 | c_5
  · subst c_5
    refine lv_astore_nN (lv' := [(3, .null), (0, .ref (aA G 9)), (1, .ref (aA G 4)), (2, .ref (aA G 7))]) hx hb d_MA_step_5 rfl hl (by decide) rfl (fun ls hl => ?_)
    refine lv_aload_nN hx hb d_MA_step_6 rfl (lv_at hl 0 rfl) ?_
    refine lv_ifnonnullN hx hb d_MA_step_7 ?_
    exact W.vret hx hb hr (fun t ht hW => ⟨⟨S, rfl, ⟨by simp only [f_MA_step, if_pos en5.symm], (IC_mono hI (by omega))⟩, by rw [ht]; exact hP, hD⟩, hS.F ht⟩) hS.2.2 d_MA_step_10
  · obtain ⟨k5, rfl⟩ : ∃ y : Nat, n5 = y + 1 := ⟨n5 - 1, by omega⟩
    have ek5 : f_MA_currentText S - 1 = k5 := by rw [← en5]; rfl
    have hz5 : ¬ f_MA_currentText S = 0 := by rw [← en5]; exact Nat.succ_ne_zero _
    have hk5 : k5 < 3 := ct_k hI en5
    refine lv_astore_n (lv' := [(3, .ref (tA G k5 0)), (0, .ref (aA G 9)), (1, .ref (aA G 4)), (2, .ref (aA G 7))]) hx hb d_MA_step_5 rfl hl (by decide) rfl (fun ls hl => ?_)
    refine lv_aload_n hx hb d_MA_step_6 rfl (lv_at hl 0 rfl) ?_
    refine lv_ifnonnull (tgt := 11) hx hb d_MA_step_7 (by decide) ?_
    refine lv_aload_n hx hb d_MA_step_11 rfl (lv_at hl 1 rfl) ?_
    refine va_get (D := D) (ci := 5) (v := .int (S.2 9 3)) (C := R_MA) (T := T_MA) (N := 5) hx hb hts (fun w h => List.mem_cons_of_mem _ (in_MA w h)) hown hK hP 9 (w_9 G S) rfl 3 (by decide) (hts _ (List.mem_cons_of_mem _ kw93)) (fun _ h9 => h9) rfl d_MA_step_12 ?_
    refine lv_iconst (v := 1) hx hb d_MA_step_15 (by decide) ?_
    refine lv_isub hx hb d_MA_step_16 ?_
    refine lv_topi (fun x16 ex16 => ?_)
    refine lv_istore (lv' := [(4, .int x16), (3, .ref (tA G k5 0)), (0, .ref (aA G 9)), (1, .ref (aA G 4)), (2, .ref (aA G 7))]) hx hb d_MA_step_17 hl (by decide) rfl (fun ls hl => ?_)
    refine lv_aload_n hx hb d_MA_step_19 rfl (lv_at hl 2 rfl) ?_
    refine va_get (D := D) (ci := 5) (v := .ref (aA G 11)) (C := R_MA) (T := T_MA) (N := 5) hx hb hts (fun w h => List.mem_cons_of_mem _ (in_MA w h)) hown hK hP 9 (w_9 G S) rfl 1 (by decide) (hts _ (List.mem_cons_of_mem _ kw91)) (fun _ h9 => h9) rfl d_MA_step_20 ?_
    refine lv_iload hx hb d_MA_step_23 (lv_at hl 0 rfl) ?_
    refine va_iald (D := D) hx hb hK hP 11 0 (w_11 G S) rfl (by rw [ex16]; exact dm_in hI (ct_pos en5)) d_MA_step_25 ?_
    refine lv_topi (fun x25 ex25 => ?_)
    refine lv_istore (lv' := [(5, .int x25), (4, .int x16), (3, .ref (tA G k5 0)), (0, .ref (aA G 9)), (1, .ref (aA G 4)), (2, .ref (aA G 7))]) hx hb d_MA_step_26 hl (by decide) rfl (fun ls hl => ?_)
    refine lv_aload_n hx hb d_MA_step_28 rfl (lv_at hl 2 rfl) ?_
    refine lv_iload hx hb d_MA_step_29 (lv_at hl 0 rfl) ?_
    refine vp_callSi (W.runV (As := [.int x25]) (rest := []) ⟨hx, hb, hml, hown, hts⟩ (c_MT_signAt l D G S k5 x25 N hI hk5) (cwV 1 hts (gV kw316 kw160 kw161 kw2 kw162) rfl rfl rfl (by decide +kernel) ⟨by show (0 : Nat) + 1 ≤ 21; omega, by show 8 + (2 + 11) + 0 ≤ 584; omega⟩) ⟨blindR, va_recv (ci := 1) (q0 := 13 + 7 * k5) hK hP rfl (wt_0 G S hk5), fun U hU hW => ⟨rfl, rPre_of hP hK hN hU hW⟩⟩ rfl rfl hl.1 rfl (lv_room (Nat.le_of_ble_eq_true rfl)) d_MA_step_31 ⟨Nat.zero_le _, Nat.zero_le _⟩) (fun x31 ex31 => ?_)
    refine lv_istore (lv' := [(6, .int x31), (5, .int x25), (4, .int x16), (3, .ref (tA G k5 0)), (0, .ref (aA G 9)), (1, .ref (aA G 4)), (2, .ref (aA G 7))]) hx hb d_MA_step_34 hl (by decide) rfl (fun ls hl => ?_)
    refine lv_iload hx hb d_MA_step_36 (lv_at hl 0 rfl) ?_
    refine vp_callSi (va_runSN (As := [.int x31]) (rest := []) ⟨hx, hb, hml, hown, hts⟩ (c_GS_isLetter l x31) ⟨va_cnB 1 hts (gW kw167) rfl rfl rfl (hN.1 (R_MA, 53, y_GS_isLetter, "GateStack") (by decide +kernel)) (hts _ (List.mem_cons_of_mem _ kw1)) (by decide +kernel) ⟨by show (0 : Nat) + 1 ≤ 21; omega, by show 8 + (1 + 11) + 0 ≤ 584; omega⟩, (hts _ (List.mem_cons_of_mem _ kw166)), trivial⟩ ⟨blindP, fun U hU hW => ⟨rfl, NW_warm hW hN⟩⟩ rfl rfl hl.1 rfl (lv_room (Nat.le_of_ble_eq_true rfl)) d_MA_step_38 ⟨Nat.zero_le _, Nat.zero_le _⟩).run (fun x38 ex38 => ?_)
    obtain ⟨ex38, bx38⟩ := ex38
    refine lv_if_eq (tgt := 68) hx hb d_MA_step_41 (by decide) (fun c_41 => ?_) (fun c_41 => ?_)
    · refine lv_aload_n hx hb d_MA_step_68 rfl (lv_at hl 4 rfl) ?_
      refine va_get (D := D) (ci := 5) (v := .ref (aA G 11)) (C := R_MA) (T := T_MA) (N := 5) hx hb hts (fun w h => List.mem_cons_of_mem _ (in_MA w h)) hown hK hP 9 (w_9 G S) rfl 1 (by decide) (hts _ (List.mem_cons_of_mem _ kw91)) (fun _ h9 => h9) rfl d_MA_step_69 ?_
      refine lv_iload hx hb d_MA_step_72 (lv_at hl 2 rfl) ?_
      refine lv_aload_n hx hb d_MA_step_74 rfl (lv_at hl 4 rfl) ?_
      refine lv_aload_n hx hb d_MA_step_75 rfl (lv_at hl 3 rfl) ?_
      refine lv_iload hx hb d_MA_step_76 (lv_at hl 1 rfl) ?_
      refine lv_aload_n hx hb d_MA_step_78 rfl (lv_at hl 6 rfl) ?_
      refine cq_i (va_runV (As := [.ref (tA G k5 0), .int x25, .ref (aA G 7)]) (rest := [.int x16, .ref (aA G 11)]) ⟨hx, hb, hml, hown, hts⟩ (c_MA_placeBehind l D G S _ k5 x25 N hI hk5 hNB) (cwV 3 hts (gV kw337 kw338 kw647 kw6 kw339) rfl rfl rfl (by decide +kernel) ⟨by show (20 : Nat) + 1 ≤ 21; omega, by show 8 + (8 + 11) + 557 ≤ 584; omega⟩) ⟨blindC, va_recv (ci := 5) (q0 := 9) hK hP rfl (w_9 G S), fun U hU hW => ⟨rfl, cPre_of hP hK hD hN hU hW⟩⟩ rfl rfl hl.1 rfl (lv_room (Nat.le_of_ble_eq_true rfl)) d_MA_step_79 ⟨Nat.zero_le _, Nat.zero_le _⟩) hD hS hA (fun x79 S79 H locs hw hP hD hS => ?_)
      obtain ⟨hw, hI⟩ := hw
      have ex79 : x79 = (f_MA_placeBehind S k5 x25).1 := congrArg Prod.fst hw
      have eS79 : S79 = (f_MA_placeBehind S k5 x25).2 := congrArg Prod.snd hw
      clear hw
      refine va_iastE (D := D) hx hb hK hP hD hS 11 0 (w_11 G S79) rfl (by rw [ex16]; exact dm_in hI0 (ct_pos en5)) (wsta_11 G S79 x16.toNatClampNeg x79) d_MA_step_82 (fun H locs hP hD hS => ?_)
      obtain ⟨S82, eS82⟩ : ∃ y : CS, y = stR S79 11 x16.toNatClampNeg x79 := ⟨_, rfl⟩
      rw [← eS82] at hP hD
      have hI : IC (N + 1) S82 := by rw [eS82]; exact IC_A hI _ _ _ (by decide)
      refine lv_aload_n hx hb d_MA_step_83 rfl (lv_at hl 4 rfl) ?_
      refine lv_aload_n hx hb d_MA_step_84 rfl (lv_at hl 5 rfl) ?_
      refine cq_v (va_runV (As := [.ref (aA G 4)]) (rest := []) ⟨hx, hb, hml, hown, hts⟩ (c_MA_leaveEndedBlocks l D G S82 _ (N + 1) hI) (cwV 1 hts (gV kw310 kw311 kw644 kw6 kw312) rfl rfl rfl (by decide +kernel) ⟨by show (3 : Nat) + 1 ≤ 21; omega, by show 8 + (5 + 11) + 64 ≤ 584; omega⟩) ⟨blindC, va_recv (ci := 5) (q0 := 9) hK hP rfl (w_9 G S82), fun U hU hW => ⟨rfl, cPre_of hP hK hD hN hU hW⟩⟩ rfl rfl hl.1 rfl (lv_room (Nat.le_of_ble_eq_true rfl)) d_MA_step_85 ⟨Nat.zero_le _, Nat.zero_le _⟩) hD hS hA (fun S85 H locs hw hP hD hS => ?_)
      obtain ⟨eS85, hI⟩ := hw
      exact W.vret hx hb hr (fun t ht hW => ⟨⟨S85, rfl, ⟨by subst eS85; subst eS82; subst eS79; subst ex79; subst ex38; subst ex31; subst ex25; subst ex16; simp only [f_MA_step, if_neg hz5, ek5, if_pos c_41], hI⟩, by rw [ht]; exact hP, hD⟩, hS.F ht⟩) hS.2.2 d_MA_step_88
    · refine lv_aload_n hx hb d_MA_step_44 rfl (lv_at hl 4 rfl) ?_
      refine va_get (D := D) (ci := 5) (v := .ref (aA G 11)) (C := R_MA) (T := T_MA) (N := 5) hx hb hts (fun w h => List.mem_cons_of_mem _ (in_MA w h)) hown hK hP 9 (w_9 G S) rfl 1 (by decide) (hts _ (List.mem_cons_of_mem _ kw91)) (fun _ h9 => h9) rfl d_MA_step_45 ?_
      refine lv_iload hx hb d_MA_step_48 (lv_at hl 2 rfl) ?_
      refine lv_iload hx hb d_MA_step_50 (lv_at hl 1 rfl) ?_
      refine lv_iconst (v := 2) hx hb d_MA_step_52 (by decide) ?_
      refine lv_iadd hx hb d_MA_step_53 ?_
      refine lv_topi (fun x53 ex53 => ?_)
      refine va_iastE (D := D) hx hb hK hP hD hS 11 0 (w_11 G S) rfl (by rw [ex16]; exact dm_in hI0 (ct_pos en5)) (wsta_11 G S x16.toNatClampNeg x53) d_MA_step_54 (fun H locs hP hD hS => ?_)
      obtain ⟨S54, eS54⟩ : ∃ y : CS, y = stR S 11 x16.toNatClampNeg x53 := ⟨_, rfl⟩
      rw [← eS54] at hP hD
      have hI : IC N S54 := by rw [eS54]; exact IC_A hI _ _ _ (by decide)
      refine lv_aload_n hx hb d_MA_step_55 rfl (lv_at hl 4 rfl) ?_
      refine lv_aload_n hx hb d_MA_step_56 rfl (lv_at hl 5 rfl) ?_
      refine lv_iload hx hb d_MA_step_57 (lv_at hl 0 rfl) ?_
      refine lv_bipush (v := 65) hx hb d_MA_step_59 (by decide) ?_
      refine lv_isub hx hb d_MA_step_61 ?_
      refine lv_topi (fun x61 ex61 => ?_)
      refine cq_v (va_runV (As := [.ref (aA G 4), .int x61]) (rest := []) ⟨hx, hb, hml, hown, hts⟩ (c_MA_enter l D G S54 _ x61 N hI) (cwV 2 hts (gV kw299 kw300 kw643 kw6 kw301) rfl rfl rfl (by decide +kernel) ⟨by show (2 : Nat) + 1 ≤ 21; omega, by show 8 + (4 + 11) + 41 ≤ 584; omega⟩) ⟨blindC, va_recv (ci := 5) (q0 := 9) hK hP rfl (w_9 G S54), fun U hU hW => ⟨rfl, cPre_of hP hK hD hN hU hW⟩⟩ rfl rfl hl.1 rfl (lv_room (Nat.le_of_ble_eq_true rfl)) d_MA_step_62 ⟨Nat.zero_le _, Nat.zero_le _⟩) hD hS hA (fun S62 H locs hw hP hD hS => ?_)
      obtain ⟨eS62, hI⟩ := hw
      refine lv_goto (tgt := 83) hx hb d_MA_step_65 (by decide) ?_
      refine lv_aload_n hx hb d_MA_step_83 rfl (lv_at hl 4 rfl) ?_
      refine lv_aload_n hx hb d_MA_step_84 rfl (lv_at hl 5 rfl) ?_
      refine cq_v (va_runV (As := [.ref (aA G 4)]) (rest := []) ⟨hx, hb, hml, hown, hts⟩ (c_MA_leaveEndedBlocks l D G S62 _ N hI) (cwV 1 hts (gV kw310 kw311 kw644 kw6 kw312) rfl rfl rfl (by decide +kernel) ⟨by show (3 : Nat) + 1 ≤ 21; omega, by show 8 + (5 + 11) + 64 ≤ 584; omega⟩) ⟨blindC, va_recv (ci := 5) (q0 := 9) hK hP rfl (w_9 G S62), fun U hU hW => ⟨rfl, cPre_of hP hK hD hN hU hW⟩⟩ rfl rfl hl.1 rfl (lv_room (Nat.le_of_ble_eq_true rfl)) d_MA_step_85 ⟨Nat.zero_le _, Nat.zero_le _⟩) hD hS hA (fun S85 H locs hw hP hD hS => ?_)
      obtain ⟨eS85, hI⟩ := hw
      exact W.vret hx hb hr (fun t ht hW => ⟨⟨S85, rfl, ⟨by subst eS85; subst eS62; subst ex61; subst eS54; subst ex53; subst ex38; subst ex31; subst ex25; subst ex16; simp only [f_MA_step, if_neg hz5, ek5, if_neg c_41], (IC_mono hI (by omega))⟩, by rw [ht]; exact hP, hD⟩, hS.F ht⟩) hS.2.2 d_MA_step_88
set_option maxHeartbeats 4000000 in
set_option maxRecDepth 100000 in
theorem c_MA_hasKept (l : Launch) (D : va_G) (G : GP) (S : CS) (p1 : Int32) (N : Nat) (hI : IC N S) : Met l y_MA_hasKept ws_MA_hasKept ({ frames := 0, cells := 0, slots := 0, locals := 0 }) (va_Pc [.ref (aA G 9), .int p1] (rPre D G S)) (vp_Si (fun r => r = f_MA_hasKept S p1 ∧ bl r)) 0 0 (fun _ => False) := by
  refine Met.ofW (cc := b_MA_hasKept) (maxL := 2) (ret := (some .boolean)) (by decide) rfl ?_
  intro p e s m args below meth c s₁ B hml hv
  obtain ⟨rfl, hP, hK, hN⟩ := hv
  have hx := B.exec
  have hb := B.bytes
  have hr := B.returns
  have hts := atoms_spec (ws := ws_MA_hasKept) B.pre
  have hown : s.vm.findClass R_MA = some m.cls := findClass_of_methodNamed B.named
  have hlocks := B.notSynchronized
  have hl := lv_entry ([.ref (aA G 9), .int p1]) (n := 2) (Nat.le_of_ble_eq_true rfl)
  rw [lg_entry_eq]
  generalize (lg_sl ([.ref (aA G 9), .int p1]) ++ List.replicate (2 - (lg_sl ([.ref (aA G 9), .int p1])).length) Slot.unset).toArray = ls at hl ⊢
  have hl : lv_has ls 2 [(0, .ref (aA G 9)), (1, .int p1)] := hl
  refine lv_iload_n hx hb d_MA_hasKept_0 rfl (lv_at hl 1 rfl) ?_
  refine lv_if_lt (tgt := 22) hx hb d_MA_hasKept_1 (by decide) (fun c_1 => ?_) (fun c_1 => ?_)
  · refine lv_iconst (v := 0) hx hb d_MA_hasKept_22 (by decide) ?_
    exact W.zret (v := 0) hx hb hr (bl_nar (Or.inl rfl)) (fun t ht hW => ⟨0, rfl, ⟨by simp only [f_MA_hasKept, if_pos c_1], (Or.inl rfl)⟩, ht⟩) (fun q h => absurd h List.not_mem_nil) d_MA_hasKept_23
  · refine lv_iload_n hx hb d_MA_hasKept_4 rfl (lv_at hl 1 rfl) ?_
    refine lv_bipush (v := 24) hx hb d_MA_hasKept_5 (by decide) ?_
    refine lv_icmp_ge (tgt := 22) hx hb d_MA_hasKept_7 (by decide) (fun c_7 => ?_) (fun c_7 => ?_)
    · refine lv_iconst (v := 0) hx hb d_MA_hasKept_22 (by decide) ?_
      exact W.zret (v := 0) hx hb hr (bl_nar (Or.inl rfl)) (fun t ht hW => ⟨0, rfl, ⟨by simp only [f_MA_hasKept, if_neg c_1, if_pos c_7], (Or.inl rfl)⟩, ht⟩) (fun q h => absurd h List.not_mem_nil) d_MA_hasKept_23
    · refine lv_iload_n hx hb d_MA_hasKept_10 rfl (lv_at hl 1 rfl) ?_
      refine lv_aload_n hx hb d_MA_hasKept_11 rfl (lv_at hl 0 rfl) ?_
      refine va_get (D := D) (ci := 5) (v := .int (S.2 9 4)) (C := R_MA) (T := T_MA) (N := 5) hx hb hts (fun w h => List.mem_cons_of_mem _ (in_MA w h)) hown hK hP 9 (w_9 G S) rfl 4 (by decide) (hts _ (List.mem_cons_of_mem _ kw94)) (fun _ h9 => h9) rfl d_MA_hasKept_12 ?_
      refine lv_icmp_ge (tgt := 22) hx hb d_MA_hasKept_15 (by decide) (fun c_15 => ?_) (fun c_15 => ?_)
      · refine lv_iconst (v := 0) hx hb d_MA_hasKept_22 (by decide) ?_
        exact W.zret (v := 0) hx hb hr (bl_nar (Or.inl rfl)) (fun t ht hW => ⟨0, rfl, ⟨by simp only [f_MA_hasKept, if_neg c_1, if_neg c_7, if_pos c_15], (Or.inl rfl)⟩, ht⟩) (fun q h => absurd h List.not_mem_nil) d_MA_hasKept_23
      · refine lv_iconst (v := 1) hx hb d_MA_hasKept_18 (by decide) ?_
        refine lv_goto (tgt := 23) hx hb d_MA_hasKept_19 (by decide) ?_
        exact W.zret (v := 1) hx hb hr (bl_nar (Or.inr rfl)) (fun t ht hW => ⟨1, rfl, ⟨by simp only [f_MA_hasKept, if_neg c_1, if_neg c_7, if_neg c_15], (Or.inr rfl)⟩, ht⟩) (fun q h => absurd h List.not_mem_nil) d_MA_hasKept_23
set_option maxHeartbeats 4000000 in
set_option maxRecDepth 100000 in
theorem c_MA_kept (l : Launch) (D : va_G) (G : GP) (S : CS) (p1 : Int32) (N : Nat) (hI : IC N S) : Met l y_MA_kept ws_MA_kept ({ frames := 1, cells := 0, slots := 0, locals := 21 }) (va_Pc [.ref (aA G 9), .int p1] (rPre D G S)) (vp_Si (fun r => r = f_MA_kept S p1)) 0 0 (fun _ => False) := by
  refine Met.ofW (cc := b_MA_kept) (maxL := 2) (ret := (some .int)) (by decide) rfl ?_
  intro p e s m args below meth c s₁ B hml hv
  obtain ⟨rfl, hP, hK, hN⟩ := hv
  have hx := B.exec
  have hb := B.bytes
  have hr := B.returns
  have hts := atoms_spec (ws := ws_MA_kept) B.pre
  have hown : s.vm.findClass R_MA = some m.cls := findClass_of_methodNamed B.named
  have hlocks := B.notSynchronized
  have hl := lv_entry ([.ref (aA G 9), .int p1]) (n := 2) (Nat.le_of_ble_eq_true rfl)
  rw [lg_entry_eq]
  generalize (lg_sl ([.ref (aA G 9), .int p1]) ++ List.replicate (2 - (lg_sl ([.ref (aA G 9), .int p1])).length) Slot.unset).toArray = ls at hl ⊢
  have hl : lv_has ls 2 [(0, .ref (aA G 9)), (1, .int p1)] := hl
  refine lv_aload_n hx hb d_MA_kept_0 rfl (lv_at hl 0 rfl) ?_
  refine lv_iload_n hx hb d_MA_kept_1 rfl (lv_at hl 1 rfl) ?_
  refine vp_callSi (W.runV (As := [.int p1]) (rest := []) ⟨hx, hb, hml, hown, hts⟩ (c_MA_hasKept l D G S p1 N hI) (cwV 1 hts (gV kw404 kw397 kw398 kw6 kw399) rfl rfl rfl (by decide +kernel) ⟨by show (0 : Nat) + 1 ≤ 1; omega, by show 8 + (2 + 11) + 0 ≤ 21; omega⟩) ⟨blindR, va_recv (ci := 5) (q0 := 9) hK hP rfl (w_9 G S), fun U hU hW => ⟨rfl, rPre_of hP hK hN hU hW⟩⟩ rfl rfl hl.1 rfl (lv_room (Nat.le_of_ble_eq_true rfl)) d_MA_kept_2 ⟨Nat.zero_le _, Nat.zero_le _⟩) (fun x2 ex2 => ?_)
  obtain ⟨ex2, bx2⟩ := ex2
  refine lv_if_eq (tgt := 17) hx hb d_MA_kept_5 (by decide) (fun c_5 => ?_) (fun c_5 => ?_)
  · refine lv_iconst (v := 0) hx hb d_MA_kept_17 (by decide) ?_
    exact W.iret (v := 0) hx hb hr (fun t ht hW => ⟨0, rfl, by subst ex2; simp only [f_MA_kept, if_pos c_5], ht⟩) (fun q h => absurd h List.not_mem_nil) d_MA_kept_18
  · refine lv_aload_n hx hb d_MA_kept_8 rfl (lv_at hl 0 rfl) ?_
    refine va_get (D := D) (ci := 5) (v := .ref (aA G 12)) (C := R_MA) (T := T_MA) (N := 5) hx hb hts (fun w h => List.mem_cons_of_mem _ (in_MA w h)) hown hK hP 9 (w_9 G S) rfl 2 (by decide) (hts _ (List.mem_cons_of_mem _ kw92)) (fun _ h9 => h9) rfl d_MA_kept_9 ?_
    refine lv_iload_n hx hb d_MA_kept_12 rfl (lv_at hl 1 rfl) ?_
    refine va_iald (D := D) hx hb hK hP 12 0 (w_12 G S) rfl (kp_in (by rw [← ex2]; exact c_5)) d_MA_kept_13 ?_
    refine lv_topi (fun x13 ex13 => ?_)
    refine lv_goto (tgt := 18) hx hb d_MA_kept_14 (by decide) ?_
    exact W.iret (v := x13) hx hb hr (fun t ht hW => ⟨x13, rfl, by subst ex13; subst ex2; simp only [f_MA_kept, if_neg c_5], ht⟩) (fun q h => absurd h List.not_mem_nil) d_MA_kept_18
set_option maxHeartbeats 4000000 in
set_option maxRecDepth 100000 in
theorem c_MA_letterCode (l : Launch) (D : va_G) (G : GP) (S : CS) (N : Nat) (hI : IC N S) : Met l y_MA_letterCode ws_MA_letterCode ({ frames := 0, cells := 0, slots := 0, locals := 0 }) (va_Pc [.ref (aA G 9)] (rPre D G S)) (vp_Si (fun r => r = f_MA_letterCode S)) 0 0 (fun _ => False) := by
  refine Met.ofW (cc := b_MA_letterCode) (maxL := 1) (ret := (some .int)) (by decide) rfl ?_
  intro p e s m args below meth c s₁ B hml hv
  obtain ⟨rfl, hP, hK, hN⟩ := hv
  have hx := B.exec
  have hb := B.bytes
  have hr := B.returns
  have hts := atoms_spec (ws := ws_MA_letterCode) B.pre
  have hown : s.vm.findClass R_MA = some m.cls := findClass_of_methodNamed B.named
  have hlocks := B.notSynchronized
  have hl := lv_entry ([.ref (aA G 9)]) (n := 1) (Nat.le_of_ble_eq_true rfl)
  rw [lg_entry_eq]
  generalize (lg_sl ([.ref (aA G 9)]) ++ List.replicate (1 - (lg_sl ([.ref (aA G 9)])).length) Slot.unset).toArray = ls at hl ⊢
  have hl : lv_has ls 1 [(0, .ref (aA G 9))] := hl
  refine lv_aload_n hx hb d_MA_letterCode_0 rfl (lv_at hl 0 rfl) ?_
  refine va_get (D := D) (ci := 5) (v := .int (S.2 9 3)) (C := R_MA) (T := T_MA) (N := 5) hx hb hts (fun w h => List.mem_cons_of_mem _ (in_MA w h)) hown hK hP 9 (w_9 G S) rfl 3 (by decide) (hts _ (List.mem_cons_of_mem _ kw93)) (fun _ h9 => h9) rfl d_MA_letterCode_1 ?_
  refine lv_if_le (tgt := 24) hx hb d_MA_letterCode_4 (by decide) (fun c_4 => ?_) (fun c_4 => ?_)
  · refine lv_iconst (v := 0) hx hb d_MA_letterCode_24 (by decide) ?_
    exact W.iret (v := 0) hx hb hr (fun t ht hW => ⟨0, rfl, by simp only [f_MA_letterCode, if_pos c_4], ht⟩) (fun q h => absurd h List.not_mem_nil) d_MA_letterCode_25
  · refine lv_bipush (v := 65) hx hb d_MA_letterCode_7 (by decide) ?_
    refine lv_aload_n hx hb d_MA_letterCode_9 rfl (lv_at hl 0 rfl) ?_
    refine va_get (D := D) (ci := 5) (v := .ref (aA G 10)) (C := R_MA) (T := T_MA) (N := 5) hx hb hts (fun w h => List.mem_cons_of_mem _ (in_MA w h)) hown hK hP 9 (w_9 G S) rfl 0 (by decide) (hts _ (List.mem_cons_of_mem _ kw90)) (fun _ h9 => h9) rfl d_MA_letterCode_10 ?_
    refine lv_aload_n hx hb d_MA_letterCode_13 rfl (lv_at hl 0 rfl) ?_
    refine va_get (D := D) (ci := 5) (v := .int (S.2 9 3)) (C := R_MA) (T := T_MA) (N := 5) hx hb hts (fun w h => List.mem_cons_of_mem _ (in_MA w h)) hown hK hP 9 (w_9 G S) rfl 3 (by decide) (hts _ (List.mem_cons_of_mem _ kw93)) (fun _ h9 => h9) rfl d_MA_letterCode_14 ?_
    refine lv_iconst (v := 1) hx hb d_MA_letterCode_17 (by decide) ?_
    refine lv_isub hx hb d_MA_letterCode_18 ?_
    refine lv_topi (fun x18 ex18 => ?_)
    refine va_iald (D := D) hx hb hK hP 10 0 (w_10 G S) rfl (by rw [ex18]; exact dm_in hI (i_nle0 c_4)) d_MA_letterCode_19 ?_
    refine lv_topi (fun x19 ex19 => ?_)
    refine lv_iadd hx hb d_MA_letterCode_20 ?_
    refine lv_topi (fun x20 ex20 => ?_)
    refine lv_goto (tgt := 25) hx hb d_MA_letterCode_21 (by decide) ?_
    exact W.iret (v := x20) hx hb hr (fun t ht hW => ⟨x20, rfl, by subst ex20; subst ex19; subst ex18; simp only [f_MA_letterCode, if_neg c_4], ht⟩) (fun q h => absurd h List.not_mem_nil) d_MA_letterCode_25
set_option maxHeartbeats 4000000 in
set_option maxRecDepth 100000 in
theorem c_MA_statementNumber (l : Launch) (D : va_G) (G : GP) (S : CS) (N : Nat) (hI : IC N S) : Met l y_MA_statementNumber ws_MA_statementNumber ({ frames := 3, cells := 0, slots := 0, locals := 62 }) (va_Pc [.ref (aA G 9), .ref (aA G 4)] (rPre D G S)) (vp_Si (fun r => r = f_MA_statementNumber S)) 0 0 (fun _ => False) := by
  refine Met.ofW (cc := b_MA_statementNumber) (maxL := 3) (ret := (some .int)) (by decide) rfl ?_
  intro p e s m args below meth c s₁ B hml hv
  obtain ⟨rfl, hP, hK, hN⟩ := hv
  have hx := B.exec
  have hb := B.bytes
  have hr := B.returns
  have hts := atoms_spec (ws := ws_MA_statementNumber) B.pre
  have hown : s.vm.findClass R_MA = some m.cls := findClass_of_methodNamed B.named
  have hlocks := B.notSynchronized
  have hl := lv_entry ([.ref (aA G 9), .ref (aA G 4)]) (n := 3) (Nat.le_of_ble_eq_true rfl)
  rw [lg_entry_eq]
  generalize (lg_sl ([.ref (aA G 9), .ref (aA G 4)]) ++ List.replicate (3 - (lg_sl ([.ref (aA G 9), .ref (aA G 4)])).length) Slot.unset).toArray = ls at hl ⊢
  have hl : lv_has ls 3 [(0, .ref (aA G 9)), (1, .ref (aA G 4))] := hl
  refine lv_aload_n hx hb d_MA_statementNumber_0 rfl (lv_at hl 0 rfl) ?_
  refine lv_aload_n hx hb d_MA_statementNumber_1 rfl (lv_at hl 1 rfl) ?_
  refine va_csq (W.runV (As := [.ref (aA G 4)]) (rest := []) ⟨hx, hb, hml, hown, hts⟩ (c_MA_currentText l D G S N hI) (cwV 1 hts (gV kw313 kw314 kw645 kw6 kw315) rfl rfl rfl (by decide +kernel) ⟨by show (2 : Nat) + 1 ≤ 3; omega, by show 8 + (2 + 11) + 41 ≤ 62; omega⟩) ⟨blindR, va_recv (ci := 5) (q0 := 9) hK hP rfl (w_9 G S), fun U hU hW => ⟨rfl, rPre_of hP hK hN hU hW⟩⟩ rfl rfl hl.1 rfl (lv_room (Nat.le_of_ble_eq_true rfl)) d_MA_statementNumber_2 ⟨Nat.zero_le _, Nat.zero_le _⟩) (fun rn2 en2 => ?_)
  rw [en2]
  obtain ⟨n5, en5⟩ : ∃ y : Nat, y = f_MA_currentText S := ⟨_, rfl⟩
  rw [← en5]
  rcases Nat.eq_zero_or_pos n5 with c_5 | c_5
  · subst c_5
    refine lv_astore_nN (lv' := [(2, .null), (0, .ref (aA G 9)), (1, .ref (aA G 4))]) hx hb d_MA_statementNumber_5 rfl hl (by decide) rfl (fun ls hl => ?_)
    refine lv_aload_nN hx hb d_MA_statementNumber_6 rfl (lv_at hl 0 rfl) ?_
    refine lv_ifnonnullN hx hb d_MA_statementNumber_7 ?_
    refine lv_iconst (v := 0) hx hb d_MA_statementNumber_10 (by decide) ?_
    refine lv_goto (tgt := 29) hx hb d_MA_statementNumber_11 (by decide) ?_
    exact W.iret (v := 0) hx hb hr (fun t ht hW => ⟨0, rfl, by simp only [f_MA_statementNumber, if_pos en5.symm], ht⟩) (fun q h => absurd h List.not_mem_nil) d_MA_statementNumber_29
  · obtain ⟨k5, rfl⟩ : ∃ y : Nat, n5 = y + 1 := ⟨n5 - 1, by omega⟩
    have ek5 : f_MA_currentText S - 1 = k5 := by rw [← en5]; rfl
    have hz5 : ¬ f_MA_currentText S = 0 := by rw [← en5]; exact Nat.succ_ne_zero _
    have hk5 : k5 < 3 := ct_k hI en5
    refine lv_astore_n (lv' := [(2, .ref (tA G k5 0)), (0, .ref (aA G 9)), (1, .ref (aA G 4))]) hx hb d_MA_statementNumber_5 rfl hl (by decide) rfl (fun ls hl => ?_)
    refine lv_aload_n hx hb d_MA_statementNumber_6 rfl (lv_at hl 0 rfl) ?_
    refine lv_ifnonnull (tgt := 14) hx hb d_MA_statementNumber_7 (by decide) ?_
    refine lv_aload_n hx hb d_MA_statementNumber_14 rfl (lv_at hl 0 rfl) ?_
    refine lv_aload_n hx hb d_MA_statementNumber_15 rfl (lv_at hl 1 rfl) ?_
    refine va_get (D := D) (ci := 5) (v := .ref (aA G 11)) (C := R_MA) (T := T_MA) (N := 5) hx hb hts (fun w h => List.mem_cons_of_mem _ (in_MA w h)) hown hK hP 9 (w_9 G S) rfl 1 (by decide) (hts _ (List.mem_cons_of_mem _ kw91)) (fun _ h9 => h9) rfl d_MA_statementNumber_16 ?_
    refine lv_aload_n hx hb d_MA_statementNumber_19 rfl (lv_at hl 1 rfl) ?_
    refine va_get (D := D) (ci := 5) (v := .int (S.2 9 3)) (C := R_MA) (T := T_MA) (N := 5) hx hb hts (fun w h => List.mem_cons_of_mem _ (in_MA w h)) hown hK hP 9 (w_9 G S) rfl 3 (by decide) (hts _ (List.mem_cons_of_mem _ kw93)) (fun _ h9 => h9) rfl d_MA_statementNumber_20 ?_
    refine lv_iconst (v := 1) hx hb d_MA_statementNumber_23 (by decide) ?_
    refine lv_isub hx hb d_MA_statementNumber_24 ?_
    refine lv_topi (fun x24 ex24 => ?_)
    refine va_iald (D := D) hx hb hK hP 11 0 (w_11 G S) rfl (by rw [ex24]; exact dm_in hI (ct_pos en5)) d_MA_statementNumber_25 ?_
    refine lv_topi (fun x25 ex25 => ?_)
    refine vp_callSi (W.runV (As := [.int x25]) (rest := []) ⟨hx, hb, hml, hown, hts⟩ (c_MT_numberAt l D G S k5 x25 N hI hk5) (cwV 1 hts (gV kw417 kw418 kw419 kw2 kw420) rfl rfl rfl (by decide +kernel) ⟨by show (1 : Nat) + 1 ≤ 3; omega, by show 8 + (2 + 11) + 21 ≤ 62; omega⟩) ⟨blindR, va_recv (ci := 1) (q0 := 13 + 7 * k5) hK hP rfl (wt_0 G S hk5), fun U hU hW => ⟨rfl, rPre_of hP hK hN hU hW⟩⟩ rfl rfl hl.1 rfl (lv_room (Nat.le_of_ble_eq_true rfl)) d_MA_statementNumber_26 ⟨Nat.zero_le _, Nat.zero_le _⟩) (fun x26 ex26 => ?_)
    exact W.iret (v := x26) hx hb hr (fun t ht hW => ⟨x26, rfl, by subst ex26; subst ex25; subst ex24; simp only [f_MA_statementNumber, if_neg hz5, ek5], ht⟩) (fun q h => absurd h List.not_mem_nil) d_MA_statementNumber_29
set_option maxHeartbeats 4000000 in
set_option maxRecDepth 100000 in
theorem c_MA_depth (l : Launch) (D : va_G) (G : GP) (S : CS) (N : Nat) (hI : IC N S) : Met l y_MA_depth ws_MA_depth ({ frames := 0, cells := 0, slots := 0, locals := 0 }) (va_Pc [.ref (aA G 9)] (rPre D G S)) (vp_Si (fun r => r = f_MA_depth S)) 0 0 (fun _ => False) := by
  refine Met.ofW (cc := b_MA_depth) (maxL := 1) (ret := (some .int)) (by decide) rfl ?_
  intro p e s m args below meth c s₁ B hml hv
  obtain ⟨rfl, hP, hK, hN⟩ := hv
  have hx := B.exec
  have hb := B.bytes
  have hr := B.returns
  have hts := atoms_spec (ws := ws_MA_depth) B.pre
  have hown : s.vm.findClass R_MA = some m.cls := findClass_of_methodNamed B.named
  have hlocks := B.notSynchronized
  have hl := lv_entry ([.ref (aA G 9)]) (n := 1) (Nat.le_of_ble_eq_true rfl)
  rw [lg_entry_eq]
  generalize (lg_sl ([.ref (aA G 9)]) ++ List.replicate (1 - (lg_sl ([.ref (aA G 9)])).length) Slot.unset).toArray = ls at hl ⊢
  have hl : lv_has ls 1 [(0, .ref (aA G 9))] := hl
  refine lv_aload_n hx hb d_MA_depth_0 rfl (lv_at hl 0 rfl) ?_
  refine va_get (D := D) (ci := 5) (v := .int (S.2 9 3)) (C := R_MA) (T := T_MA) (N := 5) hx hb hts (fun w h => List.mem_cons_of_mem _ (in_MA w h)) hown hK hP 9 (w_9 G S) rfl 3 (by decide) (hts _ (List.mem_cons_of_mem _ kw93)) (fun _ h9 => h9) rfl d_MA_depth_1 ?_
  exact W.iret (v := (S.2 9 3)) hx hb hr (fun t ht hW => ⟨S.2 9 3, rfl, by simp only [f_MA_depth], ht⟩) (fun q h => absurd h List.not_mem_nil) d_MA_depth_4
set_option maxHeartbeats 4000000 in
set_option maxRecDepth 100000 in
theorem c_MA_outputCount (l : Launch) (D : va_G) (G : GP) (S : CS) (N : Nat) (hI : IC N S) : Met l y_MA_outputCount ws_MA_outputCount ({ frames := 0, cells := 0, slots := 0, locals := 0 }) (va_Pc [.ref (aA G 9)] (rPre D G S)) (vp_Si (fun r => r = f_MA_outputCount S)) 0 0 (fun _ => False) := by
  refine Met.ofW (cc := b_MA_outputCount) (maxL := 1) (ret := (some .int)) (by decide) rfl ?_
  intro p e s m args below meth c s₁ B hml hv
  obtain ⟨rfl, hP, hK, hN⟩ := hv
  have hx := B.exec
  have hb := B.bytes
  have hr := B.returns
  have hts := atoms_spec (ws := ws_MA_outputCount) B.pre
  have hown : s.vm.findClass R_MA = some m.cls := findClass_of_methodNamed B.named
  have hlocks := B.notSynchronized
  have hl := lv_entry ([.ref (aA G 9)]) (n := 1) (Nat.le_of_ble_eq_true rfl)
  rw [lg_entry_eq]
  generalize (lg_sl ([.ref (aA G 9)]) ++ List.replicate (1 - (lg_sl ([.ref (aA G 9)])).length) Slot.unset).toArray = ls at hl ⊢
  have hl : lv_has ls 1 [(0, .ref (aA G 9))] := hl
  refine lv_aload_n hx hb d_MA_outputCount_0 rfl (lv_at hl 0 rfl) ?_
  refine va_get (D := D) (ci := 5) (v := .int (S.2 9 4)) (C := R_MA) (T := T_MA) (N := 5) hx hb hts (fun w h => List.mem_cons_of_mem _ (in_MA w h)) hown hK hP 9 (w_9 G S) rfl 4 (by decide) (hts _ (List.mem_cons_of_mem _ kw94)) (fun _ h9 => h9) rfl d_MA_outputCount_1 ?_
  exact W.iret (v := (S.2 9 4)) hx hb hr (fun t ht hW => ⟨S.2 9 4, rfl, by simp only [f_MA_outputCount], ht⟩) (fun q h => absurd h List.not_mem_nil) d_MA_outputCount_4
