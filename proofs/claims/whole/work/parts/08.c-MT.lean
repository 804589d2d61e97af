set_option maxHeartbeats 4000000 in
set_option maxRecDepth 100000 in
theorem c_MT_append (l : Launch) (D : va_G) (G : GP) (S : CS) (sz : Nat) (k : Nat) (p1 : Int32) (N : Nat) (hI : IC N S) (hk : k < 3) : Met l y_MT_append ws_MT_append ({ frames := 0, cells := 0, slots := 0, locals := 0 }) (va_Pc [.ref (tA G k 0), .int p1] (cPre D G S sz)) (va_Qi (fun (r : Int32) (S' : CS) => (r, S') = f_MT_append S k p1 ∧ IC N S' ∧ bl r) (wB D G (va_A (wC G S) sz)) (va_A (wC G S) sz)) 0 0 (va_A (wC G S) sz) := by
  refine Met.ofW (cc := b_MT_append) (maxL := 2) (ret := (some .boolean)) (by decide) rfl ?_
  intro p e s m args below meth c s₁ B hml hv
  obtain ⟨rfl, hsz, hP, hK, hD0, hN⟩ := hv
  have hx := B.exec
  have hb := B.bytes
  have hr := B.returns
  have hts := atoms_spec (ws := ws_MT_append) B.pre
  have hown : s.vm.findClass R_MT = some m.cls := findClass_of_methodNamed B.named
  have hlocks := B.notSynchronized
  subst hsz
  have hD := hD0.self (sz := s.heap.size)
  generalize hAe : va_A (wC G S) s.heap.size = A at hD ⊢
  have hA : ∀ q : Nat, s.heap.size ≤ q → A q := fun q h => by rw [← hAe]; exact Or.inr h
  have hS : va_S A s.heap s.heap [] := va_S.rf
  have hl := lv_entry ([.ref (tA G k 0), .int p1]) (n := 2) (Nat.le_of_ble_eq_true rfl)
  rw [lg_entry_eq]
  generalize (lg_sl ([.ref (tA G k 0), .int p1]) ++ List.replicate (2 - (lg_sl ([.ref (tA G k 0), .int p1])).length) Slot.unset).toArray = ls at hl ⊢
  have hl : lv_has ls 2 [(0, .ref (tA G k 0)), (1, .int p1)] := hl
  have hI0 := hI
  refine lv_aload_n hx hb d_MT_append_0 rfl (lv_at hl 0 rfl) ?_
  refine va_get (D := D) (ci := 1) (v := .int (S.1 k 0 6)) (C := R_MT) (T := T_MT) (N := 10) hx hb hts (fun w h => List.mem_cons_of_mem _ (in_MT w h)) hown hK hP (13 + 7 * k) (wt_0 G S hk) rfl 6 (by decide) (hts _ (List.mem_cons_of_mem _ kw28)) (fun _ h9 => h9) rfl d_MT_append_1 ?_
  refine lv_bipush (v := 60) hx hb d_MT_append_4 (by decide) ?_
  refine lv_icmp_lt (tgt := 11) hx hb d_MT_append_6 (by decide) (fun c_6 => ?_) (fun c_6 => ?_)
  · refine lv_aload_n hx hb d_MT_append_11 rfl (lv_at hl 0 rfl) ?_
    refine va_get (D := D) (ci := 1) (v := .ref (tA G k 1)) (C := R_MT) (T := T_MT) (N := 10) hx hb hts (fun w h => List.mem_cons_of_mem _ (in_MT w h)) hown hK hP (13 + 7 * k) (wt_0 G S hk) rfl 0 (by decide) (hts _ (List.mem_cons_of_mem _ kw22)) (fun _ h9 => h9) rfl d_MT_append_12 ?_
    refine lv_aload_n hx hb d_MT_append_15 rfl (lv_at hl 0 rfl) ?_
    refine va_get (D := D) (ci := 1) (v := .int (S.1 k 0 6)) (C := R_MT) (T := T_MT) (N := 10) hx hb hts (fun w h => List.mem_cons_of_mem _ (in_MT w h)) hown hK hP (13 + 7 * k) (wt_0 G S hk) rfl 6 (by decide) (hts _ (List.mem_cons_of_mem _ kw28)) (fun _ h9 => h9) rfl d_MT_append_16 ?_
    refine lv_iload_n hx hb d_MT_append_19 rfl (lv_at hl 1 rfl) ?_
    refine va_iastE (D := D) hx hb hK hP hD hS (13 + 7 * k + 1) 0 (wt_1 G S hk) rfl (ln_in hI hk (i_lt 60 rfl c_6)) (wstt_a1 G S (S.1 k 0 6).toNatClampNeg p1 hk) d_MT_append_20 (fun H locs hP hD hS => ?_)
    obtain ⟨S20, eS20⟩ : ∃ y : CS, y = stT S k 1 (S.1 k 0 6).toNatClampNeg p1 := ⟨_, rfl⟩
    rw [← eS20] at hP hD
    have hI : IC N S20 := by rw [eS20]; exact IC_T hI _ _ _ _ (by decide)
    refine lv_aload_n hx hb d_MT_append_21 rfl (lv_at hl 0 rfl) ?_
    refine lv_dup hx hb d_MT_append_22 rfl ?_
    refine va_get (D := D) (ci := 1) (v := .int (S20.1 k 0 6)) (C := R_MT) (T := T_MT) (N := 10) hx hb hts (fun w h => List.mem_cons_of_mem _ (in_MT w h)) hown hK hP (13 + 7 * k) (wt_0 G S20 hk) rfl 6 (by decide) (hts _ (List.mem_cons_of_mem _ kw28)) (fun _ h9 => h9) rfl d_MT_append_23 ?_
    refine lv_iconst (v := 1) hx hb d_MT_append_26 (by decide) ?_
    refine lv_iadd hx hb d_MT_append_27 ?_
    refine lv_topi (fun x27 ex27 => ?_)
    refine va_putE (D := D) (ci := 1) (v := .int x27) (ty := .int) (C := R_MT) (T := T_MT) (N := 10) hx hb hts (fun w h => List.mem_cons_of_mem _ (in_MT w h)) t_MT t_MT_ok n_MT hown hK hP hD hS (13 + 7 * k) (wt_0 G S20 hk) rfl 6 (by decide) (hts _ (List.mem_cons_of_mem _ kw28)) (fun _ h9 => h9) rfl (by decide +kernel) rfl rfl (Nat.le_of_ble_eq_true rfl) (wstt_6 G S20 x27 hk) d_MT_append_28 (fun H locs hP hD hS => ?_)
    obtain ⟨S28, eS28⟩ : ∃ y : CS, y = stT S20 k 0 6 x27 := ⟨_, rfl⟩
    rw [← eS28] at hP hD
    have hI : IC N S28 := by rw [eS28]; exact (have q := ln_p hI0 hk (i_lt 60 rfl c_6); IC_tl hI _ _ (by rw [ex27, eS20, stT_o (by decide)]; exact q.1) (by rw [ex27, eS20, stT_o (by decide)]; exact q.2))
    refine lv_aload_n hx hb d_MT_append_31 rfl (lv_at hl 0 rfl) ?_
    refine lv_iconst (v := 0) hx hb d_MT_append_32 (by decide) ?_
    refine va_putE (D := D) (ci := 1) (v := .int 0) (ty := .boolean) (C := R_MT) (T := T_MT) (N := 10) hx hb hts (fun w h => List.mem_cons_of_mem _ (in_MT w h)) t_MT t_MT_ok n_MT hown hK hP hD hS (13 + 7 * k) (wt_0 G S28 hk) rfl 9 (by decide) (hts _ (List.mem_cons_of_mem _ kw31)) (fun _ h9 => h9) rfl (by decide +kernel) rfl rfl (Nat.le_of_ble_eq_true rfl) (wstt_9 G S28 0 hk) d_MT_append_33 (fun H locs hP hD hS => ?_)
    obtain ⟨S33, eS33⟩ : ∃ y : CS, y = stT S28 k 0 9 0 := ⟨_, rfl⟩
    rw [← eS33] at hP hD
    have hI : IC N S33 := by rw [eS33]; exact IC_tb hI _ 9 (Or.inr rfl) _ (Or.inl rfl)
    refine lv_iconst (v := 1) hx hb d_MT_append_36 (by decide) ?_
    exact W.zret (v := 1) hx hb hr (bl_nar (Or.inr rfl)) (fun t ht hW => ⟨⟨1, S33, rfl, ⟨by subst eS33; subst eS28; subst ex27; subst eS20; simp only [f_MT_append, if_pos c_6], hI, (Or.inr rfl)⟩, by rw [ht]; exact hP, hD⟩, hS.F ht⟩) hS.2.2 d_MT_append_37
  · refine lv_iconst (v := 0) hx hb d_MT_append_9 (by decide) ?_
    exact W.zret (v := 0) hx hb hr (bl_nar (Or.inl rfl)) (fun t ht hW => ⟨⟨0, S, rfl, ⟨by simp only [f_MT_append, if_neg c_6], hI, (Or.inl rfl)⟩, by rw [ht]; exact hP, hD⟩, hS.F ht⟩) hS.2.2 d_MT_append_10
set_option maxHeartbeats 4000000 in
set_option maxRecDepth 100000 in
theorem c_MT_length (l : Launch) (D : va_G) (G : GP) (S : CS) (k : Nat) (N : Nat) (hI : IC N S) (hk : k < 3) : Met l y_MT_length ws_MT_length ({ frames := 0, cells := 0, slots := 0, locals := 0 }) (va_Pc [.ref (tA G k 0)] (rPre D G S)) (vp_Si (fun r => r = f_MT_length S k)) 0 0 (fun _ => False) := by
  refine Met.ofW (cc := b_MT_length) (maxL := 1) (ret := (some .int)) (by decide) rfl ?_
  intro p e s m args below meth c s₁ B hml hv
  obtain ⟨rfl, hP, hK, hN⟩ := hv
  have hx := B.exec
  have hb := B.bytes
  have hr := B.returns
  have hts := atoms_spec (ws := ws_MT_length) B.pre
  have hown : s.vm.findClass R_MT = some m.cls := findClass_of_methodNamed B.named
  have hlocks := B.notSynchronized
  have hl := lv_entry ([.ref (tA G k 0)]) (n := 1) (Nat.le_of_ble_eq_true rfl)
  rw [lg_entry_eq]
  generalize (lg_sl ([.ref (tA G k 0)]) ++ List.replicate (1 - (lg_sl ([.ref (tA G k 0)])).length) Slot.unset).toArray = ls at hl ⊢
  have hl : lv_has ls 1 [(0, .ref (tA G k 0))] := hl
  refine lv_aload_n hx hb d_MT_length_0 rfl (lv_at hl 0 rfl) ?_
  refine va_get (D := D) (ci := 1) (v := .int (S.1 k 0 6)) (C := R_MT) (T := T_MT) (N := 10) hx hb hts (fun w h => List.mem_cons_of_mem _ (in_MT w h)) hown hK hP (13 + 7 * k) (wt_0 G S hk) rfl 6 (by decide) (hts _ (List.mem_cons_of_mem _ kw28)) (fun _ h9 => h9) rfl d_MT_length_1 ?_
  exact W.iret (v := (S.1 k 0 6)) hx hb hr (fun t ht hW => ⟨S.1 k 0 6, rfl, by simp only [f_MT_length], ht⟩) (fun q h => absurd h List.not_mem_nil) d_MT_length_4
set_option maxHeartbeats 4000000 in
set_option maxRecDepth 100000 in
theorem c_MT_forget (l : Launch) (D : va_G) (G : GP) (S : CS) (sz : Nat) (k : Nat) (N : Nat) (hI : IC N S) (hk : k < 3) : Met l y_MT_forget ws_MT_forget ({ frames := 0, cells := 0, slots := 0, locals := 0 }) (va_Pc [.ref (tA G k 0)] (cPre D G S sz)) (va_Qv (fun S' : CS => S' = f_MT_forget S k ∧ IC N S') (wB D G (va_A (wC G S) sz)) (va_A (wC G S) sz)) 0 0 (va_A (wC G S) sz) := by
  refine Met.ofW (cc := b_MT_forget) (maxL := 1) (ret := none) (by decide) rfl ?_
  intro p e s m args below meth c s₁ B hml hv
  obtain ⟨rfl, hsz, hP, hK, hD0, hN⟩ := hv
  have hx := B.exec
  have hb := B.bytes
  have hr := B.returns
  have hts := atoms_spec (ws := ws_MT_forget) B.pre
  have hown : s.vm.findClass R_MT = some m.cls := findClass_of_methodNamed B.named
  have hlocks := B.notSynchronized
  subst hsz
  have hD := hD0.self (sz := s.heap.size)
  generalize hAe : va_A (wC G S) s.heap.size = A at hD ⊢
  have hA : ∀ q : Nat, s.heap.size ≤ q → A q := fun q h => by rw [← hAe]; exact Or.inr h
  have hS : va_S A s.heap s.heap [] := va_S.rf
  have hl := lv_entry ([.ref (tA G k 0)]) (n := 1) (Nat.le_of_ble_eq_true rfl)
  rw [lg_entry_eq]
  generalize (lg_sl ([.ref (tA G k 0)]) ++ List.replicate (1 - (lg_sl ([.ref (tA G k 0)])).length) Slot.unset).toArray = ls at hl ⊢
  have hl : lv_has ls 1 [(0, .ref (tA G k 0))] := hl
  refine lv_aload_n hx hb d_MT_forget_0 rfl (lv_at hl 0 rfl) ?_
  refine lv_iconst (v := 0) hx hb d_MT_forget_1 (by decide) ?_
  refine va_putE (D := D) (ci := 1) (v := .int 0) (ty := .int) (C := R_MT) (T := T_MT) (N := 10) hx hb hts (fun w h => List.mem_cons_of_mem _ (in_MT w h)) t_MT t_MT_ok n_MT hown hK hP hD hS (13 + 7 * k) (wt_0 G S hk) rfl 7 (by decide) (hts _ (List.mem_cons_of_mem _ kw29)) (fun _ h9 => h9) rfl (by decide +kernel) rfl rfl (Nat.le_of_ble_eq_true rfl) (wstt_7 G S 0 hk) d_MT_forget_2 (fun H locs hP hD hS => ?_)
  obtain ⟨S2, eS2⟩ : ∃ y : CS, y = stT S k 0 7 0 := ⟨_, rfl⟩
  rw [← eS2] at hP hD
  have hI : IC N S2 := by rw [eS2]; exact IC_T7 hI _ _
  refine lv_aload_n hx hb d_MT_forget_5 rfl (lv_at hl 0 rfl) ?_
  refine lv_iconst (v := 0) hx hb d_MT_forget_6 (by decide) ?_
  refine va_putE (D := D) (ci := 1) (v := .int 0) (ty := .boolean) (C := R_MT) (T := T_MT) (N := 10) hx hb hts (fun w h => List.mem_cons_of_mem _ (in_MT w h)) t_MT t_MT_ok n_MT hown hK hP hD hS (13 + 7 * k) (wt_0 G S2 hk) rfl 8 (by decide) (hts _ (List.mem_cons_of_mem _ kw30)) (fun _ h9 => h9) rfl (by decide +kernel) rfl rfl (Nat.le_of_ble_eq_true rfl) (wstt_8 G S2 0 hk) d_MT_forget_7 (fun H locs hP hD hS => ?_)
  obtain ⟨S7, eS7⟩ : ∃ y : CS, y = stT S2 k 0 8 0 := ⟨_, rfl⟩
  rw [← eS7] at hP hD
  have hI : IC N S7 := by rw [eS7]; exact IC_tb hI _ 8 (Or.inl rfl) _ (Or.inl rfl)
  exact W.vret hx hb hr (fun t ht hW => ⟨⟨S7, rfl, ⟨by subst eS7; subst eS2; simp only [f_MT_forget], hI⟩, by rw [ht]; exact hP, hD⟩, hS.F ht⟩) hS.2.2 d_MT_forget_10
set_option maxHeartbeats 4000000 in
set_option maxRecDepth 100000 in
theorem c_MT_empty (l : Launch) (D : va_G) (G : GP) (S : CS) (sz : Nat) (k : Nat) (N : Nat) (hI : IC N S) (hk : k < 3) : Met l y_MT_empty ws_MT_empty ({ frames := 1, cells := 0, slots := 0, locals := 20 }) (va_Pc [.ref (tA G k 0)] (cPre D G S sz)) (va_Qv (fun S' : CS => S' = f_MT_empty S k ∧ IC N S') (wB D G (va_A (wC G S) sz)) (va_A (wC G S) sz)) 0 0 (va_A (wC G S) sz) := by
  refine Met.ofW (cc := b_MT_empty) (maxL := 1) (ret := none) (by decide) rfl ?_
  intro p e s m args below meth c s₁ B hml hv
  obtain ⟨rfl, hsz, hP, hK, hD0, hN⟩ := hv
  have hx := B.exec
  have hb := B.bytes
  have hr := B.returns
  have hts := atoms_spec (ws := ws_MT_empty) B.pre
  have hown : s.vm.findClass R_MT = some m.cls := findClass_of_methodNamed B.named
  have hlocks := B.notSynchronized
  subst hsz
  have hD := hD0.self (sz := s.heap.size)
  generalize hAe : va_A (wC G S) s.heap.size = A at hD ⊢
  have hA : ∀ q : Nat, s.heap.size ≤ q → A q := fun q h => by rw [← hAe]; exact Or.inr h
  have hS : va_S A s.heap s.heap [] := va_S.rf
  have hl := lv_entry ([.ref (tA G k 0)]) (n := 1) (Nat.le_of_ble_eq_true rfl)
  rw [lg_entry_eq]
  generalize (lg_sl ([.ref (tA G k 0)]) ++ List.replicate (1 - (lg_sl ([.ref (tA G k 0)])).length) Slot.unset).toArray = ls at hl ⊢
  have hl : lv_has ls 1 [(0, .ref (tA G k 0))] := hl
  refine lv_aload_n hx hb d_MT_empty_0 rfl (lv_at hl 0 rfl) ?_
  refine lv_iconst (v := 0) hx hb d_MT_empty_1 (by decide) ?_
  refine va_putE (D := D) (ci := 1) (v := .int 0) (ty := .int) (C := R_MT) (T := T_MT) (N := 10) hx hb hts (fun w h => List.mem_cons_of_mem _ (in_MT w h)) t_MT t_MT_ok n_MT hown hK hP hD hS (13 + 7 * k) (wt_0 G S hk) rfl 6 (by decide) (hts _ (List.mem_cons_of_mem _ kw28)) (fun _ h9 => h9) rfl (by decide +kernel) rfl rfl (Nat.le_of_ble_eq_true rfl) (wstt_6 G S 0 hk) d_MT_empty_2 (fun H locs hP hD hS => ?_)
  obtain ⟨S2, eS2⟩ : ∃ y : CS, y = stT S k 0 6 0 := ⟨_, rfl⟩
  rw [← eS2] at hP hD
  have hI : IC N S2 := by rw [eS2]; exact IC_tl0 hI _
  refine lv_aload_n hx hb d_MT_empty_5 rfl (lv_at hl 0 rfl) ?_
  refine cq_v (va_runV (As := []) (rest := []) ⟨hx, hb, hml, hown, hts⟩ (c_MT_forget l D G S2 _ k N hI hk) (cwV 0 hts (gV kw142 kw143 kw144 kw2 kw145) rfl rfl rfl (by decide +kernel) ⟨by show (0 : Nat) + 1 ≤ 1; omega, by show 8 + (1 + 11) + 0 ≤ 20; omega⟩) ⟨blindC, va_recv (ci := 1) (q0 := 13 + 7 * k) hK hP rfl (wt_0 G S2 hk), fun U hU hW => ⟨rfl, cPre_of hP hK hD hN hU hW⟩⟩ rfl rfl hl.1 rfl (lv_room (Nat.le_of_ble_eq_true rfl)) d_MT_empty_6 ⟨Nat.zero_le _, Nat.zero_le _⟩) hD hS hA (fun S6 H locs hw hP hD hS => ?_)
  obtain ⟨eS6, hI⟩ := hw
  refine lv_aload_n hx hb d_MT_empty_9 rfl (lv_at hl 0 rfl) ?_
  refine lv_iconst (v := 1) hx hb d_MT_empty_10 (by decide) ?_
  refine va_putE (D := D) (ci := 1) (v := .int 1) (ty := .boolean) (C := R_MT) (T := T_MT) (N := 10) hx hb hts (fun w h => List.mem_cons_of_mem _ (in_MT w h)) t_MT t_MT_ok n_MT hown hK hP hD hS (13 + 7 * k) (wt_0 G S6 hk) rfl 9 (by decide) (hts _ (List.mem_cons_of_mem _ kw31)) (fun _ h9 => h9) rfl (by decide +kernel) rfl rfl (Nat.le_of_ble_eq_true rfl) (wstt_9 G S6 1 hk) d_MT_empty_11 (fun H locs hP hD hS => ?_)
  obtain ⟨S11, eS11⟩ : ∃ y : CS, y = stT S6 k 0 9 1 := ⟨_, rfl⟩
  rw [← eS11] at hP hD
  have hI : IC N S11 := by rw [eS11]; exact IC_tb hI _ 9 (Or.inr rfl) _ (Or.inr rfl)
  exact W.vret hx hb hr (fun t ht hW => ⟨⟨S11, rfl, ⟨by subst eS11; subst eS6; subst eS2; simp only [f_MT_empty], hI⟩, by rw [ht]; exact hP, hD⟩, hS.F ht⟩) hS.2.2 d_MT_empty_14
set_option maxHeartbeats 4000000 in
set_option maxRecDepth 100000 in
theorem c_MT_signAt (l : Launch) (D : va_G) (G : GP) (S : CS) (k : Nat) (p1 : Int32) (N : Nat) (hI : IC N S) (hk : k < 3) : Met l y_MT_signAt ws_MT_signAt ({ frames := 0, cells := 0, slots := 0, locals := 0 }) (va_Pc [.ref (tA G k 0), .int p1] (rPre D G S)) (vp_Si (fun r => r = f_MT_signAt S k p1)) 0 0 (fun _ => False) := by
  refine Met.ofW (cc := b_MT_signAt) (maxL := 2) (ret := (some .int)) (by decide) rfl ?_
  intro p e s m args below meth c s₁ B hml hv
  obtain ⟨rfl, hP, hK, hN⟩ := hv
  have hx := B.exec
  have hb := B.bytes
  have hr := B.returns
  have hts := atoms_spec (ws := ws_MT_signAt) B.pre
  have hown : s.vm.findClass R_MT = some m.cls := findClass_of_methodNamed B.named
  have hlocks := B.notSynchronized
  have hl := lv_entry ([.ref (tA G k 0), .int p1]) (n := 2) (Nat.le_of_ble_eq_true rfl)
  rw [lg_entry_eq]
  generalize (lg_sl ([.ref (tA G k 0), .int p1]) ++ List.replicate (2 - (lg_sl ([.ref (tA G k 0), .int p1])).length) Slot.unset).toArray = ls at hl ⊢
  have hl : lv_has ls 2 [(0, .ref (tA G k 0)), (1, .int p1)] := hl
  refine lv_iload_n hx hb d_MT_signAt_0 rfl (lv_at hl 1 rfl) ?_
  refine lv_if_lt (tgt := 21) hx hb d_MT_signAt_1 (by decide) (fun c_1 => ?_) (fun c_1 => ?_)
  · refine lv_iconst (v := 0) hx hb d_MT_signAt_21 (by decide) ?_
    exact W.iret (v := 0) hx hb hr (fun t ht hW => ⟨0, rfl, by simp only [f_MT_signAt, if_pos c_1], ht⟩) (fun q h => absurd h List.not_mem_nil) d_MT_signAt_22
  · refine lv_iload_n hx hb d_MT_signAt_4 rfl (lv_at hl 1 rfl) ?_
    refine lv_aload_n hx hb d_MT_signAt_5 rfl (lv_at hl 0 rfl) ?_
    refine va_get (D := D) (ci := 1) (v := .int (S.1 k 0 6)) (C := R_MT) (T := T_MT) (N := 10) hx hb hts (fun w h => List.mem_cons_of_mem _ (in_MT w h)) hown hK hP (13 + 7 * k) (wt_0 G S hk) rfl 6 (by decide) (hts _ (List.mem_cons_of_mem _ kw28)) (fun _ h9 => h9) rfl d_MT_signAt_6 ?_
    refine lv_icmp_ge (tgt := 21) hx hb d_MT_signAt_9 (by decide) (fun c_9 => ?_) (fun c_9 => ?_)
    · refine lv_iconst (v := 0) hx hb d_MT_signAt_21 (by decide) ?_
      exact W.iret (v := 0) hx hb hr (fun t ht hW => ⟨0, rfl, by simp only [f_MT_signAt, if_neg c_1, if_pos c_9], ht⟩) (fun q h => absurd h List.not_mem_nil) d_MT_signAt_22
    · refine lv_aload_n hx hb d_MT_signAt_12 rfl (lv_at hl 0 rfl) ?_
      refine va_get (D := D) (ci := 1) (v := .ref (tA G k 1)) (C := R_MT) (T := T_MT) (N := 10) hx hb hts (fun w h => List.mem_cons_of_mem _ (in_MT w h)) hown hK hP (13 + 7 * k) (wt_0 G S hk) rfl 0 (by decide) (hts _ (List.mem_cons_of_mem _ kw22)) (fun _ h9 => h9) rfl d_MT_signAt_13 ?_
      refine lv_iload_n hx hb d_MT_signAt_16 rfl (lv_at hl 1 rfl) ?_
      refine va_iald (D := D) hx hb hK hP (13 + 7 * k + 1) 0 (wt_1 G S hk) rfl (sg_in hI hk c_1 c_9) d_MT_signAt_17 ?_
      refine lv_topi (fun x17 ex17 => ?_)
      refine lv_goto (tgt := 22) hx hb d_MT_signAt_18 (by decide) ?_
      exact W.iret (v := x17) hx hb hr (fun t ht hW => ⟨x17, rfl, by subst ex17; simp only [f_MT_signAt, if_neg c_1, if_neg c_9], ht⟩) (fun q h => absurd h List.not_mem_nil) d_MT_signAt_22
set_option maxHeartbeats 4000000 in
set_option maxRecDepth 100000 in
theorem c_MT_addProcedure (l : Launch) (D : va_G) (G : GP) (S : CS) (sz : Nat) (k : Nat) (p1 : Int32) (p2 : Int32) (N : Nat) (hI : IC N S) (hk : k < 3) : Met l y_MT_addProcedure ws_MT_addProcedure ({ frames := 1, cells := 0, slots := 0, locals := 21 }) (va_Pc [.ref (tA G k 0), .int p1, .int p2] (cPre D G S sz)) (va_Qv (fun S' : CS => S' = f_MT_addProcedure S k p1 p2 ∧ IC N S') (wB D G (va_A (wC G S) sz)) (va_A (wC G S) sz)) 0 0 (va_A (wC G S) sz) := by
  refine Met.ofW (cc := b_MT_addProcedure) (maxL := 3) (ret := none) (by decide) rfl ?_
  intro p e s m args below meth c s₁ B hml hv
  obtain ⟨rfl, hsz, hP, hK, hD0, hN⟩ := hv
  have hx := B.exec
  have hb := B.bytes
  have hr := B.returns
  have hts := atoms_spec (ws := ws_MT_addProcedure) B.pre
  have hown : s.vm.findClass R_MT = some m.cls := findClass_of_methodNamed B.named
  have hlocks := B.notSynchronized
  subst hsz
  have hD := hD0.self (sz := s.heap.size)
  generalize hAe : va_A (wC G S) s.heap.size = A at hD ⊢
  have hA : ∀ q : Nat, s.heap.size ≤ q → A q := fun q h => by rw [← hAe]; exact Or.inr h
  have hS : va_S A s.heap s.heap [] := va_S.rf
  have hl := lv_entry ([.ref (tA G k 0), .int p1, .int p2]) (n := 3) (Nat.le_of_ble_eq_true rfl)
  rw [lg_entry_eq]
  generalize (lg_sl ([.ref (tA G k 0), .int p1, .int p2]) ++ List.replicate (3 - (lg_sl ([.ref (tA G k 0), .int p1, .int p2])).length) Slot.unset).toArray = ls at hl ⊢
  have hl : lv_has ls 3 [(0, .ref (tA G k 0)), (1, .int p1), (2, .int p2)] := hl
  refine lv_iload_n hx hb d_MT_addProcedure_0 rfl (lv_at hl 1 rfl) ?_
  refine vp_callSi (va_runSN (As := [.int p1]) (rest := []) ⟨hx, hb, hml, hown, hts⟩ (c_GS_isLetterNumber l p1) ⟨va_cnB 1 hts (gW kw173) rfl rfl rfl (hN.1 (R_MT, 47, y_GS_isLetterNumber, "GateStack") (by decide +kernel)) (hts _ (List.mem_cons_of_mem _ kw1)) (by decide +kernel) ⟨by show (0 : Nat) + 1 ≤ 1; omega, by show 8 + (1 + 11) + 0 ≤ 21; omega⟩, (hts _ (List.mem_cons_of_mem _ kw172)), trivial⟩ ⟨blindP, fun U hU hW => ⟨rfl, NW_warm hW hN⟩⟩ rfl rfl hl.1 rfl (lv_room (Nat.le_of_ble_eq_true rfl)) d_MT_addProcedure_1 ⟨Nat.zero_le _, Nat.zero_le _⟩).run (fun x1 ex1 => ?_)
  obtain ⟨ex1, bx1⟩ := ex1
  refine lv_if_ne (tgt := 8) hx hb d_MT_addProcedure_4 (by decide) (fun c_4 => ?_) (fun c_4 => ?_)
  · refine lv_aload_n hx hb d_MT_addProcedure_8 rfl (lv_at hl 0 rfl) ?_
    refine lv_aload_n hx hb d_MT_addProcedure_9 rfl (lv_at hl 0 rfl) ?_
    refine va_get (D := D) (ci := 1) (v := .int (S.1 k 0 8)) (C := R_MT) (T := T_MT) (N := 10) hx hb hts (fun w h => List.mem_cons_of_mem _ (in_MT w h)) hown hK hP (13 + 7 * k) (wt_0 G S hk) rfl 8 (by decide) (hts _ (List.mem_cons_of_mem _ kw30)) (fun _ h9 => h9) rfl d_MT_addProcedure_10 ?_
    refine lv_if_ne (tgt := 27) hx hb d_MT_addProcedure_13 (by decide) (fun c_13 => ?_) (fun c_13 => ?_)
    · refine lv_iconst (v := 1) hx hb d_MT_addProcedure_27 (by decide) ?_
      refine lv_goto (tgt := 32) hx hb d_MT_addProcedure_28 (by decide) ?_
      refine va_putE (D := D) (ci := 1) (v := .int 1) (ty := .boolean) (C := R_MT) (T := T_MT) (N := 10) hx hb hts (fun w h => List.mem_cons_of_mem _ (in_MT w h)) t_MT t_MT_ok n_MT hown hK hP hD hS (13 + 7 * k) (wt_0 G S hk) rfl 8 (by decide) (hts _ (List.mem_cons_of_mem _ kw30)) (fun _ h9 => h9) rfl (by decide +kernel) rfl rfl (Nat.le_of_ble_eq_true rfl) (wstt_8 G S 1 hk) d_MT_addProcedure_32 (fun H locs hP hD hS => ?_)
      obtain ⟨S32, eS32⟩ : ∃ y : CS, y = stT S k 0 8 1 := ⟨_, rfl⟩
      rw [← eS32] at hP hD
      have hI : IC N S32 := by rw [eS32]; exact IC_tb hI _ 8 (Or.inl rfl) _ (Or.inr rfl)
      refine lv_aload_n hx hb d_MT_addProcedure_35 rfl (lv_at hl 0 rfl) ?_
      refine lv_dup hx hb d_MT_addProcedure_36 rfl ?_
      refine va_get (D := D) (ci := 1) (v := .int (S32.1 k 0 7)) (C := R_MT) (T := T_MT) (N := 10) hx hb hts (fun w h => List.mem_cons_of_mem _ (in_MT w h)) hown hK hP (13 + 7 * k) (wt_0 G S32 hk) rfl 7 (by decide) (hts _ (List.mem_cons_of_mem _ kw29)) (fun _ h9 => h9) rfl d_MT_addProcedure_37 ?_
      refine lv_iconst (v := 1) hx hb d_MT_addProcedure_40 (by decide) ?_
      refine lv_iload_n hx hb d_MT_addProcedure_41 rfl (lv_at hl 1 rfl) ?_
      refine lv_ishl hx hb d_MT_addProcedure_42 ?_
      refine lv_topi (fun x42 ex42 => ?_)
      refine lv_ior hx hb d_MT_addProcedure_43 ?_
      refine lv_topi (fun x43 ex43 => ?_)
      refine va_putE (D := D) (ci := 1) (v := .int x43) (ty := .int) (C := R_MT) (T := T_MT) (N := 10) hx hb hts (fun w h => List.mem_cons_of_mem _ (in_MT w h)) t_MT t_MT_ok n_MT hown hK hP hD hS (13 + 7 * k) (wt_0 G S32 hk) rfl 7 (by decide) (hts _ (List.mem_cons_of_mem _ kw29)) (fun _ h9 => h9) rfl (by decide +kernel) rfl rfl (Nat.le_of_ble_eq_true rfl) (wstt_7 G S32 x43 hk) d_MT_addProcedure_44 (fun H locs hP hD hS => ?_)
      obtain ⟨S44, eS44⟩ : ∃ y : CS, y = stT S32 k 0 7 x43 := ⟨_, rfl⟩
      rw [← eS44] at hP hD
      have hI : IC N S44 := by rw [eS44]; exact IC_T7 hI _ _
      refine lv_aload_n hx hb d_MT_addProcedure_47 rfl (lv_at hl 0 rfl) ?_
      refine va_get (D := D) (ci := 1) (v := .ref (tA G k 5)) (C := R_MT) (T := T_MT) (N := 10) hx hb hts (fun w h => List.mem_cons_of_mem _ (in_MT w h)) hown hK hP (13 + 7 * k) (wt_0 G S44 hk) rfl 4 (by decide) (hts _ (List.mem_cons_of_mem _ kw26)) (fun _ h9 => h9) rfl d_MT_addProcedure_48 ?_
      refine lv_iload_n hx hb d_MT_addProcedure_51 rfl (lv_at hl 1 rfl) ?_
      refine lv_iload_n hx hb d_MT_addProcedure_52 rfl (lv_at hl 2 rfl) ?_
      refine va_iastE (D := D) hx hb hK hP hD hS (13 + 7 * k + 5) 0 (wt_5 G S44 hk) rfl (let_in (by rw [← ex1]; exact c_4)) (wstt_a5 G S44 p1.toNatClampNeg p2 hk) d_MT_addProcedure_53 (fun H locs hP hD hS => ?_)
      obtain ⟨S53, eS53⟩ : ∃ y : CS, y = stT S44 k 5 p1.toNatClampNeg p2 := ⟨_, rfl⟩
      rw [← eS53] at hP hD
      have hI : IC N S53 := by rw [eS53]; exact IC_T hI _ _ _ _ (by decide)
      refine lv_aload_n hx hb d_MT_addProcedure_54 rfl (lv_at hl 0 rfl) ?_
      refine va_get (D := D) (ci := 1) (v := .ref (tA G k 6)) (C := R_MT) (T := T_MT) (N := 10) hx hb hts (fun w h => List.mem_cons_of_mem _ (in_MT w h)) hown hK hP (13 + 7 * k) (wt_0 G S53 hk) rfl 5 (by decide) (hts _ (List.mem_cons_of_mem _ kw27)) (fun _ h9 => h9) rfl d_MT_addProcedure_55 ?_
      refine lv_iload_n hx hb d_MT_addProcedure_58 rfl (lv_at hl 1 rfl) ?_
      refine lv_iconst (v := 0) hx hb d_MT_addProcedure_59 (by decide) ?_
      refine va_iastE (D := D) hx hb hK hP hD hS (13 + 7 * k + 6) 0 (wt_6 G S53 hk) rfl (let_in (by rw [← ex1]; exact c_4)) (wstt_a6 G S53 p1.toNatClampNeg 0 hk) d_MT_addProcedure_60 (fun H locs hP hD hS => ?_)
      obtain ⟨S60, eS60⟩ : ∃ y : CS, y = stT S53 k 6 p1.toNatClampNeg 0 := ⟨_, rfl⟩
      rw [← eS60] at hP hD
      have hI : IC N S60 := by rw [eS60]; exact IC_T hI _ _ _ _ (by decide)
      exact W.vret hx hb hr (fun t ht hW => ⟨⟨S60, rfl, ⟨by subst eS60; subst eS53; subst eS44; subst ex43; subst ex42; subst eS32; subst ex1; simp only [f_MT_addProcedure, if_neg c_4, if_neg c_13], hI⟩, by rw [ht]; exact hP, hD⟩, hS.F ht⟩) hS.2.2 d_MT_addProcedure_61
    · refine lv_aload_n hx hb d_MT_addProcedure_16 rfl (lv_at hl 0 rfl) ?_
      refine va_get (D := D) (ci := 1) (v := .int (S.1 k 0 7)) (C := R_MT) (T := T_MT) (N := 10) hx hb hts (fun w h => List.mem_cons_of_mem _ (in_MT w h)) hown hK hP (13 + 7 * k) (wt_0 G S hk) rfl 7 (by decide) (hts _ (List.mem_cons_of_mem _ kw29)) (fun _ h9 => h9) rfl d_MT_addProcedure_17 ?_
      refine lv_iload_n hx hb d_MT_addProcedure_20 rfl (lv_at hl 1 rfl) ?_
      refine vp_callSi (va_runSN (As := [.int (S.1 k 0 7), .int p1]) (rest := [.ref (tA G k 0)]) ⟨hx, hb, hml, hown, hts⟩ (c_GS_hasBit l (S.1 k 0 7) p1) ⟨va_cnB 2 hts (gW kw175) rfl rfl rfl (hN.1 (R_MT, 51, y_GS_hasBit, "GateStack") (by decide +kernel)) (hts _ (List.mem_cons_of_mem _ kw1)) (by decide +kernel) ⟨by show (0 : Nat) + 1 ≤ 1; omega, by show 8 + (2 + 11) + 0 ≤ 21; omega⟩, (hts _ (List.mem_cons_of_mem _ kw174)), trivial⟩ ⟨blindP, fun U hU hW => ⟨rfl, NW_warm hW hN⟩⟩ rfl rfl hl.1 rfl (lv_room (Nat.le_of_ble_eq_true rfl)) d_MT_addProcedure_21 ⟨Nat.zero_le _, Nat.zero_le _⟩).run (fun x21 ex21 => ?_)
      obtain ⟨ex21, bx21⟩ := ex21
      refine lv_if_eq (tgt := 31) hx hb d_MT_addProcedure_24 (by decide) (fun c_24 => ?_) (fun c_24 => ?_)
      · refine lv_iconst (v := 0) hx hb d_MT_addProcedure_31 (by decide) ?_
        refine va_putE (D := D) (ci := 1) (v := .int 0) (ty := .boolean) (C := R_MT) (T := T_MT) (N := 10) hx hb hts (fun w h => List.mem_cons_of_mem _ (in_MT w h)) t_MT t_MT_ok n_MT hown hK hP hD hS (13 + 7 * k) (wt_0 G S hk) rfl 8 (by decide) (hts _ (List.mem_cons_of_mem _ kw30)) (fun _ h9 => h9) rfl (by decide +kernel) rfl rfl (Nat.le_of_ble_eq_true rfl) (wstt_8 G S 0 hk) d_MT_addProcedure_32 (fun H locs hP hD hS => ?_)
        obtain ⟨S32, eS32⟩ : ∃ y : CS, y = stT S k 0 8 0 := ⟨_, rfl⟩
        rw [← eS32] at hP hD
        have hI : IC N S32 := by rw [eS32]; exact IC_tb hI _ 8 (Or.inl rfl) _ (Or.inl rfl)
        refine lv_aload_n hx hb d_MT_addProcedure_35 rfl (lv_at hl 0 rfl) ?_
        refine lv_dup hx hb d_MT_addProcedure_36 rfl ?_
        refine va_get (D := D) (ci := 1) (v := .int (S32.1 k 0 7)) (C := R_MT) (T := T_MT) (N := 10) hx hb hts (fun w h => List.mem_cons_of_mem _ (in_MT w h)) hown hK hP (13 + 7 * k) (wt_0 G S32 hk) rfl 7 (by decide) (hts _ (List.mem_cons_of_mem _ kw29)) (fun _ h9 => h9) rfl d_MT_addProcedure_37 ?_
        refine lv_iconst (v := 1) hx hb d_MT_addProcedure_40 (by decide) ?_
        refine lv_iload_n hx hb d_MT_addProcedure_41 rfl (lv_at hl 1 rfl) ?_
        refine lv_ishl hx hb d_MT_addProcedure_42 ?_
        refine lv_topi (fun x42 ex42 => ?_)
        refine lv_ior hx hb d_MT_addProcedure_43 ?_
        refine lv_topi (fun x43 ex43 => ?_)
        refine va_putE (D := D) (ci := 1) (v := .int x43) (ty := .int) (C := R_MT) (T := T_MT) (N := 10) hx hb hts (fun w h => List.mem_cons_of_mem _ (in_MT w h)) t_MT t_MT_ok n_MT hown hK hP hD hS (13 + 7 * k) (wt_0 G S32 hk) rfl 7 (by decide) (hts _ (List.mem_cons_of_mem _ kw29)) (fun _ h9 => h9) rfl (by decide +kernel) rfl rfl (Nat.le_of_ble_eq_true rfl) (wstt_7 G S32 x43 hk) d_MT_addProcedure_44 (fun H locs hP hD hS => ?_)
        obtain ⟨S44, eS44⟩ : ∃ y : CS, y = stT S32 k 0 7 x43 := ⟨_, rfl⟩
        rw [← eS44] at hP hD
        have hI : IC N S44 := by rw [eS44]; exact IC_T7 hI _ _
        refine lv_aload_n hx hb d_MT_addProcedure_47 rfl (lv_at hl 0 rfl) ?_
        refine va_get (D := D) (ci := 1) (v := .ref (tA G k 5)) (C := R_MT) (T := T_MT) (N := 10) hx hb hts (fun w h => List.mem_cons_of_mem _ (in_MT w h)) hown hK hP (13 + 7 * k) (wt_0 G S44 hk) rfl 4 (by decide) (hts _ (List.mem_cons_of_mem _ kw26)) (fun _ h9 => h9) rfl d_MT_addProcedure_48 ?_
        refine lv_iload_n hx hb d_MT_addProcedure_51 rfl (lv_at hl 1 rfl) ?_
        refine lv_iload_n hx hb d_MT_addProcedure_52 rfl (lv_at hl 2 rfl) ?_
        refine va_iastE (D := D) hx hb hK hP hD hS (13 + 7 * k + 5) 0 (wt_5 G S44 hk) rfl (let_in (by rw [← ex1]; exact c_4)) (wstt_a5 G S44 p1.toNatClampNeg p2 hk) d_MT_addProcedure_53 (fun H locs hP hD hS => ?_)
        obtain ⟨S53, eS53⟩ : ∃ y : CS, y = stT S44 k 5 p1.toNatClampNeg p2 := ⟨_, rfl⟩
        rw [← eS53] at hP hD
        have hI : IC N S53 := by rw [eS53]; exact IC_T hI _ _ _ _ (by decide)
        refine lv_aload_n hx hb d_MT_addProcedure_54 rfl (lv_at hl 0 rfl) ?_
        refine va_get (D := D) (ci := 1) (v := .ref (tA G k 6)) (C := R_MT) (T := T_MT) (N := 10) hx hb hts (fun w h => List.mem_cons_of_mem _ (in_MT w h)) hown hK hP (13 + 7 * k) (wt_0 G S53 hk) rfl 5 (by decide) (hts _ (List.mem_cons_of_mem _ kw27)) (fun _ h9 => h9) rfl d_MT_addProcedure_55 ?_
        refine lv_iload_n hx hb d_MT_addProcedure_58 rfl (lv_at hl 1 rfl) ?_
        refine lv_iconst (v := 0) hx hb d_MT_addProcedure_59 (by decide) ?_
        refine va_iastE (D := D) hx hb hK hP hD hS (13 + 7 * k + 6) 0 (wt_6 G S53 hk) rfl (let_in (by rw [← ex1]; exact c_4)) (wstt_a6 G S53 p1.toNatClampNeg 0 hk) d_MT_addProcedure_60 (fun H locs hP hD hS => ?_)
        obtain ⟨S60, eS60⟩ : ∃ y : CS, y = stT S53 k 6 p1.toNatClampNeg 0 := ⟨_, rfl⟩
        rw [← eS60] at hP hD
        have hI : IC N S60 := by rw [eS60]; exact IC_T hI _ _ _ _ (by decide)
        exact W.vret hx hb hr (fun t ht hW => ⟨⟨S60, rfl, ⟨by subst eS60; subst eS53; subst eS44; subst ex43; subst ex42; subst eS32; subst ex21; subst ex1; simp only [f_MT_addProcedure, if_neg c_4, if_pos c_13, if_pos c_24], hI⟩, by rw [ht]; exact hP, hD⟩, hS.F ht⟩) hS.2.2 d_MT_addProcedure_61
      · refine lv_iconst (v := 1) hx hb d_MT_addProcedure_27 (by decide) ?_
        refine lv_goto (tgt := 32) hx hb d_MT_addProcedure_28 (by decide) ?_
        refine va_putE (D := D) (ci := 1) (v := .int 1) (ty := .boolean) (C := R_MT) (T := T_MT) (N := 10) hx hb hts (fun w h => List.mem_cons_of_mem _ (in_MT w h)) t_MT t_MT_ok n_MT hown hK hP hD hS (13 + 7 * k) (wt_0 G S hk) rfl 8 (by decide) (hts _ (List.mem_cons_of_mem _ kw30)) (fun _ h9 => h9) rfl (by decide +kernel) rfl rfl (Nat.le_of_ble_eq_true rfl) (wstt_8 G S 1 hk) d_MT_addProcedure_32 (fun H locs hP hD hS => ?_)
        obtain ⟨S32, eS32⟩ : ∃ y : CS, y = stT S k 0 8 1 := ⟨_, rfl⟩
        rw [← eS32] at hP hD
        have hI : IC N S32 := by rw [eS32]; exact IC_tb hI _ 8 (Or.inl rfl) _ (Or.inr rfl)
        refine lv_aload_n hx hb d_MT_addProcedure_35 rfl (lv_at hl 0 rfl) ?_
        refine lv_dup hx hb d_MT_addProcedure_36 rfl ?_
        refine va_get (D := D) (ci := 1) (v := .int (S32.1 k 0 7)) (C := R_MT) (T := T_MT) (N := 10) hx hb hts (fun w h => List.mem_cons_of_mem _ (in_MT w h)) hown hK hP (13 + 7 * k) (wt_0 G S32 hk) rfl 7 (by decide) (hts _ (List.mem_cons_of_mem _ kw29)) (fun _ h9 => h9) rfl d_MT_addProcedure_37 ?_
        refine lv_iconst (v := 1) hx hb d_MT_addProcedure_40 (by decide) ?_
        refine lv_iload_n hx hb d_MT_addProcedure_41 rfl (lv_at hl 1 rfl) ?_
        refine lv_ishl hx hb d_MT_addProcedure_42 ?_
        refine lv_topi (fun x42 ex42 => ?_)
        refine lv_ior hx hb d_MT_addProcedure_43 ?_
        refine lv_topi (fun x43 ex43 => ?_)
        refine va_putE (D := D) (ci := 1) (v := .int x43) (ty := .int) (C := R_MT) (T := T_MT) (N := 10) hx hb hts (fun w h => List.mem_cons_of_mem _ (in_MT w h)) t_MT t_MT_ok n_MT hown hK hP hD hS (13 + 7 * k) (wt_0 G S32 hk) rfl 7 (by decide) (hts _ (List.mem_cons_of_mem _ kw29)) (fun _ h9 => h9) rfl (by decide +kernel) rfl rfl (Nat.le_of_ble_eq_true rfl) (wstt_7 G S32 x43 hk) d_MT_addProcedure_44 (fun H locs hP hD hS => ?_)
        obtain ⟨S44, eS44⟩ : ∃ y : CS, y = stT S32 k 0 7 x43 := ⟨_, rfl⟩
        rw [← eS44] at hP hD
        have hI : IC N S44 := by rw [eS44]; exact IC_T7 hI _ _
        refine lv_aload_n hx hb d_MT_addProcedure_47 rfl (lv_at hl 0 rfl) ?_
        refine va_get (D := D) (ci := 1) (v := .ref (tA G k 5)) (C := R_MT) (T := T_MT) (N := 10) hx hb hts (fun w h => List.mem_cons_of_mem _ (in_MT w h)) hown hK hP (13 + 7 * k) (wt_0 G S44 hk) rfl 4 (by decide) (hts _ (List.mem_cons_of_mem _ kw26)) (fun _ h9 => h9) rfl d_MT_addProcedure_48 ?_
        refine lv_iload_n hx hb d_MT_addProcedure_51 rfl (lv_at hl 1 rfl) ?_
        refine lv_iload_n hx hb d_MT_addProcedure_52 rfl (lv_at hl 2 rfl) ?_
        refine va_iastE (D := D) hx hb hK hP hD hS (13 + 7 * k + 5) 0 (wt_5 G S44 hk) rfl (let_in (by rw [← ex1]; exact c_4)) (wstt_a5 G S44 p1.toNatClampNeg p2 hk) d_MT_addProcedure_53 (fun H locs hP hD hS => ?_)
        obtain ⟨S53, eS53⟩ : ∃ y : CS, y = stT S44 k 5 p1.toNatClampNeg p2 := ⟨_, rfl⟩
        rw [← eS53] at hP hD
        have hI : IC N S53 := by rw [eS53]; exact IC_T hI _ _ _ _ (by decide)
        refine lv_aload_n hx hb d_MT_addProcedure_54 rfl (lv_at hl 0 rfl) ?_
        refine va_get (D := D) (ci := 1) (v := .ref (tA G k 6)) (C := R_MT) (T := T_MT) (N := 10) hx hb hts (fun w h => List.mem_cons_of_mem _ (in_MT w h)) hown hK hP (13 + 7 * k) (wt_0 G S53 hk) rfl 5 (by decide) (hts _ (List.mem_cons_of_mem _ kw27)) (fun _ h9 => h9) rfl d_MT_addProcedure_55 ?_
        refine lv_iload_n hx hb d_MT_addProcedure_58 rfl (lv_at hl 1 rfl) ?_
        refine lv_iconst (v := 0) hx hb d_MT_addProcedure_59 (by decide) ?_
        refine va_iastE (D := D) hx hb hK hP hD hS (13 + 7 * k + 6) 0 (wt_6 G S53 hk) rfl (let_in (by rw [← ex1]; exact c_4)) (wstt_a6 G S53 p1.toNatClampNeg 0 hk) d_MT_addProcedure_60 (fun H locs hP hD hS => ?_)
        obtain ⟨S60, eS60⟩ : ∃ y : CS, y = stT S53 k 6 p1.toNatClampNeg 0 := ⟨_, rfl⟩
        rw [← eS60] at hP hD
        have hI : IC N S60 := by rw [eS60]; exact IC_T hI _ _ _ _ (by decide)
        exact W.vret hx hb hr (fun t ht hW => ⟨⟨S60, rfl, ⟨by subst eS60; subst eS53; subst eS44; subst ex43; subst ex42; subst eS32; subst ex21; subst ex1; simp only [f_MT_addProcedure, if_neg c_4, if_pos c_13, if_neg c_24], hI⟩, by rw [ht]; exact hP, hD⟩, hS.F ht⟩) hS.2.2 d_MT_addProcedure_61
  · exact W.vret hx hb hr (fun t ht hW => ⟨⟨S, rfl, ⟨by subst ex1; simp only [f_MT_addProcedure, if_pos c_4], hI⟩, by rw [ht]; exact hP, hD⟩, hS.F ht⟩) hS.2.2 d_MT_addProcedure_7
set_option maxHeartbeats 4000000 in
set_option maxRecDepth 100000 in
theorem c_MT_isPlace (l : Launch) (D : va_G) (G : GP) (S : CS) (k : Nat) (p1 : Int32) (N : Nat) (hI : IC N S) (hk : k < 3) : Met l y_MT_isPlace ws_MT_isPlace ({ frames := 0, cells := 0, slots := 0, locals := 0 }) (va_Pc [.ref (tA G k 0), .int p1] (rPre D G S)) (vp_Si (fun r => r = f_MT_isPlace S k p1 ∧ bl r)) 0 0 (fun _ => False) := by
  refine Met.ofW (cc := b_MT_isPlace) (maxL := 2) (ret := (some .boolean)) (by decide) rfl ?_
  intro p e s m args below meth c s₁ B hml hv
  obtain ⟨rfl, hP, hK, hN⟩ := hv
  have hx := B.exec
  have hb := B.bytes
  have hr := B.returns
  have hts := atoms_spec (ws := ws_MT_isPlace) B.pre
  have hown : s.vm.findClass R_MT = some m.cls := findClass_of_methodNamed B.named
  have hlocks := B.notSynchronized
  have hl := lv_entry ([.ref (tA G k 0), .int p1]) (n := 2) (Nat.le_of_ble_eq_true rfl)
  rw [lg_entry_eq]
  generalize (lg_sl ([.ref (tA G k 0), .int p1]) ++ List.replicate (2 - (lg_sl ([.ref (tA G k 0), .int p1])).length) Slot.unset).toArray = ls at hl ⊢
  have hl : lv_has ls 2 [(0, .ref (tA G k 0)), (1, .int p1)] := hl
  refine lv_iload_n hx hb d_MT_isPlace_0 rfl (lv_at hl 1 rfl) ?_
  refine lv_if_lt (tgt := 16) hx hb d_MT_isPlace_1 (by decide) (fun c_1 => ?_) (fun c_1 => ?_)
  · refine lv_iconst (v := 0) hx hb d_MT_isPlace_16 (by decide) ?_
    exact W.zret (v := 0) hx hb hr (bl_nar (Or.inl rfl)) (fun t ht hW => ⟨0, rfl, ⟨by simp only [f_MT_isPlace, if_pos c_1], (Or.inl rfl)⟩, ht⟩) (fun q h => absurd h List.not_mem_nil) d_MT_isPlace_17
  · refine lv_iload_n hx hb d_MT_isPlace_4 rfl (lv_at hl 1 rfl) ?_
    refine lv_aload_n hx hb d_MT_isPlace_5 rfl (lv_at hl 0 rfl) ?_
    refine va_get (D := D) (ci := 1) (v := .int (S.1 k 0 6)) (C := R_MT) (T := T_MT) (N := 10) hx hb hts (fun w h => List.mem_cons_of_mem _ (in_MT w h)) hown hK hP (13 + 7 * k) (wt_0 G S hk) rfl 6 (by decide) (hts _ (List.mem_cons_of_mem _ kw28)) (fun _ h9 => h9) rfl d_MT_isPlace_6 ?_
    refine lv_icmp_ge (tgt := 16) hx hb d_MT_isPlace_9 (by decide) (fun c_9 => ?_) (fun c_9 => ?_)
    · refine lv_iconst (v := 0) hx hb d_MT_isPlace_16 (by decide) ?_
      exact W.zret (v := 0) hx hb hr (bl_nar (Or.inl rfl)) (fun t ht hW => ⟨0, rfl, ⟨by simp only [f_MT_isPlace, if_neg c_1, if_pos c_9], (Or.inl rfl)⟩, ht⟩) (fun q h => absurd h List.not_mem_nil) d_MT_isPlace_17
    · refine lv_iconst (v := 1) hx hb d_MT_isPlace_12 (by decide) ?_
      refine lv_goto (tgt := 17) hx hb d_MT_isPlace_13 (by decide) ?_
      exact W.zret (v := 1) hx hb hr (bl_nar (Or.inr rfl)) (fun t ht hW => ⟨1, rfl, ⟨by simp only [f_MT_isPlace, if_neg c_1, if_neg c_9], (Or.inr rfl)⟩, ht⟩) (fun q h => absurd h List.not_mem_nil) d_MT_isPlace_17
set_option maxHeartbeats 4000000 in
set_option maxRecDepth 100000 in
theorem c_MT_addBlock (l : Launch) (D : va_G) (G : GP) (S : CS) (sz : Nat) (k : Nat) (p1 : Int32) (p2 : Int32) (N : Nat) (hI : IC N S) (hk : k < 3) : Met l y_MT_addBlock ws_MT_addBlock ({ frames := 1, cells := 0, slots := 0, locals := 21 }) (va_Pc [.ref (tA G k 0), .int p1, .int p2] (cPre D G S sz)) (va_Qv (fun S' : CS => S' = f_MT_addBlock S k p1 p2 ∧ IC N S') (wB D G (va_A (wC G S) sz)) (va_A (wC G S) sz)) 0 0 (va_A (wC G S) sz) := by
  refine Met.ofW (cc := b_MT_addBlock) (maxL := 3) (ret := none) (by decide) rfl ?_
  intro p e s m args below meth c s₁ B hml hv
  obtain ⟨rfl, hsz, hP, hK, hD0, hN⟩ := hv
  have hx := B.exec
  have hb := B.bytes
  have hr := B.returns
  have hts := atoms_spec (ws := ws_MT_addBlock) B.pre
  have hown : s.vm.findClass R_MT = some m.cls := findClass_of_methodNamed B.named
  have hlocks := B.notSynchronized
  subst hsz
  have hD := hD0.self (sz := s.heap.size)
  generalize hAe : va_A (wC G S) s.heap.size = A at hD ⊢
  have hA : ∀ q : Nat, s.heap.size ≤ q → A q := fun q h => by rw [← hAe]; exact Or.inr h
  have hS : va_S A s.heap s.heap [] := va_S.rf
  have hl := lv_entry ([.ref (tA G k 0), .int p1, .int p2]) (n := 3) (Nat.le_of_ble_eq_true rfl)
  rw [lg_entry_eq]
  generalize (lg_sl ([.ref (tA G k 0), .int p1, .int p2]) ++ List.replicate (3 - (lg_sl ([.ref (tA G k 0), .int p1, .int p2])).length) Slot.unset).toArray = ls at hl ⊢
  have hl : lv_has ls 3 [(0, .ref (tA G k 0)), (1, .int p1), (2, .int p2)] := hl
  have hI0 := hI
  refine lv_aload_n hx hb d_MT_addBlock_0 rfl (lv_at hl 0 rfl) ?_
  refine lv_iload_n hx hb d_MT_addBlock_1 rfl (lv_at hl 1 rfl) ?_
  refine vp_callSi (W.runV (As := [.int p1]) (rest := []) ⟨hx, hb, hml, hown, hts⟩ (c_MT_isPlace l D G S k p1 N hI hk) (cwV 1 hts (gV kw195 kw196 kw632 kw2 kw197) rfl rfl rfl (by decide +kernel) ⟨by show (0 : Nat) + 1 ≤ 1; omega, by show 8 + (2 + 11) + 0 ≤ 21; omega⟩) ⟨blindR, va_recv (ci := 1) (q0 := 13 + 7 * k) hK hP rfl (wt_0 G S hk), fun U hU hW => ⟨rfl, rPre_of hP hK hN hU hW⟩⟩ rfl rfl hl.1 rfl (lv_room (Nat.le_of_ble_eq_true rfl)) d_MT_addBlock_2 ⟨Nat.zero_le _, Nat.zero_le _⟩) (fun x2 ex2 => ?_)
  obtain ⟨ex2, bx2⟩ := ex2
  refine lv_if_eq (tgt := 30) hx hb d_MT_addBlock_5 (by decide) (fun c_5 => ?_) (fun c_5 => ?_)
  · exact W.vret hx hb hr (fun t ht hW => ⟨⟨S, rfl, ⟨by subst ex2; simp only [f_MT_addBlock, if_pos c_5], hI⟩, by rw [ht]; exact hP, hD⟩, hS.F ht⟩) hS.2.2 d_MT_addBlock_30
  · refine lv_aload_n hx hb d_MT_addBlock_8 rfl (lv_at hl 0 rfl) ?_
    refine lv_iload_n hx hb d_MT_addBlock_9 rfl (lv_at hl 2 rfl) ?_
    refine vp_callSi (W.runV (As := [.int p2]) (rest := []) ⟨hx, hb, hml, hown, hts⟩ (c_MT_isPlace l D G S k p2 N hI hk) (cwV 1 hts (gV kw195 kw196 kw632 kw2 kw197) rfl rfl rfl (by decide +kernel) ⟨by show (0 : Nat) + 1 ≤ 1; omega, by show 8 + (2 + 11) + 0 ≤ 21; omega⟩) ⟨blindR, va_recv (ci := 1) (q0 := 13 + 7 * k) hK hP rfl (wt_0 G S hk), fun U hU hW => ⟨rfl, rPre_of hP hK hN hU hW⟩⟩ rfl rfl hl.1 rfl (lv_room (Nat.le_of_ble_eq_true rfl)) d_MT_addBlock_10 ⟨Nat.zero_le _, Nat.zero_le _⟩) (fun x10 ex10 => ?_)
    obtain ⟨ex10, bx10⟩ := ex10
    refine lv_if_eq (tgt := 30) hx hb d_MT_addBlock_13 (by decide) (fun c_13 => ?_) (fun c_13 => ?_)
    · exact W.vret hx hb hr (fun t ht hW => ⟨⟨S, rfl, ⟨by subst ex10; subst ex2; simp only [f_MT_addBlock, if_neg c_5, if_pos c_13], hI⟩, by rw [ht]; exact hP, hD⟩, hS.F ht⟩) hS.2.2 d_MT_addBlock_30
    · refine lv_aload_n hx hb d_MT_addBlock_16 rfl (lv_at hl 0 rfl) ?_
      refine va_get (D := D) (ci := 1) (v := .ref (tA G k 3)) (C := R_MT) (T := T_MT) (N := 10) hx hb hts (fun w h => List.mem_cons_of_mem _ (in_MT w h)) hown hK hP (13 + 7 * k) (wt_0 G S hk) rfl 2 (by decide) (hts _ (List.mem_cons_of_mem _ kw24)) (fun _ h9 => h9) rfl d_MT_addBlock_17 ?_
      refine lv_iload_n hx hb d_MT_addBlock_20 rfl (lv_at hl 2 rfl) ?_
      refine lv_iload_n hx hb d_MT_addBlock_21 rfl (lv_at hl 1 rfl) ?_
      refine va_iastE (D := D) hx hb hK hP hD hS (13 + 7 * k + 3) 0 (wt_3 G S hk) rfl (pl_in hI0 hk (by rw [← ex10]; exact c_13)) (wstt_a3 G S p2.toNatClampNeg p1 hk) d_MT_addBlock_22 (fun H locs hP hD hS => ?_)
      obtain ⟨S22, eS22⟩ : ∃ y : CS, y = stT S k 3 p2.toNatClampNeg p1 := ⟨_, rfl⟩
      rw [← eS22] at hP hD
      have hI : IC N S22 := by rw [eS22]; exact IC_T hI _ _ _ _ (by decide)
      refine lv_aload_n hx hb d_MT_addBlock_23 rfl (lv_at hl 0 rfl) ?_
      refine va_get (D := D) (ci := 1) (v := .ref (tA G k 4)) (C := R_MT) (T := T_MT) (N := 10) hx hb hts (fun w h => List.mem_cons_of_mem _ (in_MT w h)) hown hK hP (13 + 7 * k) (wt_0 G S22 hk) rfl 3 (by decide) (hts _ (List.mem_cons_of_mem _ kw25)) (fun _ h9 => h9) rfl d_MT_addBlock_24 ?_
      refine lv_iload_n hx hb d_MT_addBlock_27 rfl (lv_at hl 1 rfl) ?_
      refine lv_iload_n hx hb d_MT_addBlock_28 rfl (lv_at hl 2 rfl) ?_
      refine va_iastE (D := D) hx hb hK hP hD hS (13 + 7 * k + 4) 0 (wt_4 G S22 hk) rfl (pl_in hI0 hk (by rw [← ex2]; exact c_5)) (wstt_a4 G S22 p1.toNatClampNeg p2 hk) d_MT_addBlock_29 (fun H locs hP hD hS => ?_)
      obtain ⟨S29, eS29⟩ : ∃ y : CS, y = stT S22 k 4 p1.toNatClampNeg p2 := ⟨_, rfl⟩
      rw [← eS29] at hP hD
      have hI : IC N S29 := by rw [eS29]; exact IC_T hI _ _ _ _ (by decide)
      exact W.vret hx hb hr (fun t ht hW => ⟨⟨S29, rfl, ⟨by subst eS29; subst eS22; subst ex10; subst ex2; simp only [f_MT_addBlock, if_neg c_5, if_neg c_13], hI⟩, by rw [ht]; exact hP, hD⟩, hS.F ht⟩) hS.2.2 d_MT_addBlock_30
set_option maxHeartbeats 4000000 in
set_option maxRecDepth 100000 in
theorem c_MT_addCall (l : Launch) (D : va_G) (G : GP) (S : CS) (sz : Nat) (k : Nat) (p1 : Int32) (p2 : Int32) (N : Nat) (hI : IC N S) (hk : k < 3) : Met l y_MT_addCall ws_MT_addCall ({ frames := 1, cells := 0, slots := 0, locals := 20 }) (va_Pc [.ref (tA G k 0), .int p1, .int p2] (cPre D G S sz)) (va_Qv (fun S' : CS => S' = f_MT_addCall S k p1 p2 ∧ IC N S') (wB D G (va_A (wC G S) sz)) (va_A (wC G S) sz)) 0 0 (va_A (wC G S) sz) := by
  refine Met.ofW (cc := b_MT_addCall) (maxL := 3) (ret := none) (by decide) rfl ?_
  intro p e s m args below meth c s₁ B hml hv
  obtain ⟨rfl, hsz, hP, hK, hD0, hN⟩ := hv
  have hx := B.exec
  have hb := B.bytes
  have hr := B.returns
  have hts := atoms_spec (ws := ws_MT_addCall) B.pre
  have hown : s.vm.findClass R_MT = some m.cls := findClass_of_methodNamed B.named
  have hlocks := B.notSynchronized
  subst hsz
  have hD := hD0.self (sz := s.heap.size)
  generalize hAe : va_A (wC G S) s.heap.size = A at hD ⊢
  have hA : ∀ q : Nat, s.heap.size ≤ q → A q := fun q h => by rw [← hAe]; exact Or.inr h
  have hS : va_S A s.heap s.heap [] := va_S.rf
  have hl := lv_entry ([.ref (tA G k 0), .int p1, .int p2]) (n := 3) (Nat.le_of_ble_eq_true rfl)
  rw [lg_entry_eq]
  generalize (lg_sl ([.ref (tA G k 0), .int p1, .int p2]) ++ List.replicate (3 - (lg_sl ([.ref (tA G k 0), .int p1, .int p2])).length) Slot.unset).toArray = ls at hl ⊢
  have hl : lv_has ls 3 [(0, .ref (tA G k 0)), (1, .int p1), (2, .int p2)] := hl
  refine lv_iload_n hx hb d_MT_addCall_0 rfl (lv_at hl 1 rfl) ?_
  refine vp_callSi (va_runSN (As := [.int p1]) (rest := []) ⟨hx, hb, hml, hown, hts⟩ (c_GS_isLetterNumber l p1) ⟨va_cnB 1 hts (gW kw173) rfl rfl rfl (hN.1 (R_MT, 47, y_GS_isLetterNumber, "GateStack") (by decide +kernel)) (hts _ (List.mem_cons_of_mem _ kw1)) (by decide +kernel) ⟨by show (0 : Nat) + 1 ≤ 1; omega, by show 8 + (1 + 11) + 0 ≤ 20; omega⟩, (hts _ (List.mem_cons_of_mem _ kw172)), trivial⟩ ⟨blindP, fun U hU hW => ⟨rfl, NW_warm hW hN⟩⟩ rfl rfl hl.1 rfl (lv_room (Nat.le_of_ble_eq_true rfl)) d_MT_addCall_1 ⟨Nat.zero_le _, Nat.zero_le _⟩).run (fun x1 ex1 => ?_)
  obtain ⟨ex1, bx1⟩ := ex1
  refine lv_if_eq (tgt := 26) hx hb d_MT_addCall_4 (by decide) (fun c_4 => ?_) (fun c_4 => ?_)
  · exact W.vret hx hb hr (fun t ht hW => ⟨⟨S, rfl, ⟨by subst ex1; simp only [f_MT_addCall, if_pos c_4], hI⟩, by rw [ht]; exact hP, hD⟩, hS.F ht⟩) hS.2.2 d_MT_addCall_26
  · refine lv_iload_n hx hb d_MT_addCall_7 rfl (lv_at hl 2 rfl) ?_
    refine vp_callSi (va_runSN (As := [.int p2]) (rest := []) ⟨hx, hb, hml, hown, hts⟩ (c_GS_isLetterNumber l p2) ⟨va_cnB 1 hts (gW kw173) rfl rfl rfl (hN.1 (R_MT, 47, y_GS_isLetterNumber, "GateStack") (by decide +kernel)) (hts _ (List.mem_cons_of_mem _ kw1)) (by decide +kernel) ⟨by show (0 : Nat) + 1 ≤ 1; omega, by show 8 + (1 + 11) + 0 ≤ 20; omega⟩, (hts _ (List.mem_cons_of_mem _ kw172)), trivial⟩ ⟨blindP, fun U hU hW => ⟨rfl, NW_warm hW hN⟩⟩ rfl rfl hl.1 rfl (lv_room (Nat.le_of_ble_eq_true rfl)) d_MT_addCall_8 ⟨Nat.zero_le _, Nat.zero_le _⟩).run (fun x8 ex8 => ?_)
    obtain ⟨ex8, bx8⟩ := ex8
    refine lv_if_eq (tgt := 26) hx hb d_MT_addCall_11 (by decide) (fun c_11 => ?_) (fun c_11 => ?_)
    · exact W.vret hx hb hr (fun t ht hW => ⟨⟨S, rfl, ⟨by subst ex8; subst ex1; simp only [f_MT_addCall, if_neg c_4, if_pos c_11], hI⟩, by rw [ht]; exact hP, hD⟩, hS.F ht⟩) hS.2.2 d_MT_addCall_26
    · refine lv_aload_n hx hb d_MT_addCall_14 rfl (lv_at hl 0 rfl) ?_
      refine va_get (D := D) (ci := 1) (v := .ref (tA G k 6)) (C := R_MT) (T := T_MT) (N := 10) hx hb hts (fun w h => List.mem_cons_of_mem _ (in_MT w h)) hown hK hP (13 + 7 * k) (wt_0 G S hk) rfl 5 (by decide) (hts _ (List.mem_cons_of_mem _ kw27)) (fun _ h9 => h9) rfl d_MT_addCall_15 ?_
      refine lv_iload_n hx hb d_MT_addCall_18 rfl (lv_at hl 1 rfl) ?_
      refine lv_dup2_11 hx hb d_MT_addCall_19 rfl rfl ?_
      refine va_iald (D := D) hx hb hK hP (13 + 7 * k + 6) 0 (wt_6 G S hk) rfl (let_in (by rw [← ex1]; exact c_4)) d_MT_addCall_20 ?_
      refine lv_topi (fun x20 ex20 => ?_)
      refine lv_iconst (v := 1) hx hb d_MT_addCall_21 (by decide) ?_
      refine lv_iload_n hx hb d_MT_addCall_22 rfl (lv_at hl 2 rfl) ?_
      refine lv_ishl hx hb d_MT_addCall_23 ?_
      refine lv_topi (fun x23 ex23 => ?_)
      refine lv_ior hx hb d_MT_addCall_24 ?_
      refine lv_topi (fun x24 ex24 => ?_)
      refine va_iastE (D := D) hx hb hK hP hD hS (13 + 7 * k + 6) 0 (wt_6 G S hk) rfl (let_in (by rw [← ex1]; exact c_4)) (wstt_a6 G S p1.toNatClampNeg x24 hk) d_MT_addCall_25 (fun H locs hP hD hS => ?_)
      obtain ⟨S25, eS25⟩ : ∃ y : CS, y = stT S k 6 p1.toNatClampNeg x24 := ⟨_, rfl⟩
      rw [← eS25] at hP hD
      have hI : IC N S25 := by rw [eS25]; exact IC_T hI _ _ _ _ (by decide)
      exact W.vret hx hb hr (fun t ht hW => ⟨⟨S25, rfl, ⟨by subst eS25; subst ex24; subst ex23; subst ex20; subst ex8; subst ex1; simp only [f_MT_addCall, if_neg c_4, if_neg c_11], hI⟩, by rw [ht]; exact hP, hD⟩, hS.F ht⟩) hS.2.2 d_MT_addCall_26
set_option maxHeartbeats 4000000 in
set_option maxRecDepth 100000 in
theorem c_MT_addStatement (l : Launch) (D : va_G) (G : GP) (S : CS) (sz : Nat) (k : Nat) (p1 : Int32) (p2 : Int32) (N : Nat) (hI : IC N S) (hk : k < 3) : Met l y_MT_addStatement ws_MT_addStatement ({ frames := 1, cells := 0, slots := 0, locals := 21 }) (va_Pc [.ref (tA G k 0), .int p1, .int p2] (cPre D G S sz)) (va_Qv (fun S' : CS => S' = f_MT_addStatement S k p1 p2 ∧ IC N S') (wB D G (va_A (wC G S) sz)) (va_A (wC G S) sz)) 0 0 (va_A (wC G S) sz) := by
  refine Met.ofW (cc := b_MT_addStatement) (maxL := 3) (ret := none) (by decide) rfl ?_
  intro p e s m args below meth c s₁ B hml hv
  obtain ⟨rfl, hsz, hP, hK, hD0, hN⟩ := hv
  have hx := B.exec
  have hb := B.bytes
  have hr := B.returns
  have hts := atoms_spec (ws := ws_MT_addStatement) B.pre
  have hown : s.vm.findClass R_MT = some m.cls := findClass_of_methodNamed B.named
  have hlocks := B.notSynchronized
  subst hsz
  have hD := hD0.self (sz := s.heap.size)
  generalize hAe : va_A (wC G S) s.heap.size = A at hD ⊢
  have hA : ∀ q : Nat, s.heap.size ≤ q → A q := fun q h => by rw [← hAe]; exact Or.inr h
  have hS : va_S A s.heap s.heap [] := va_S.rf
  have hl := lv_entry ([.ref (tA G k 0), .int p1, .int p2]) (n := 3) (Nat.le_of_ble_eq_true rfl)
  rw [lg_entry_eq]
  generalize (lg_sl ([.ref (tA G k 0), .int p1, .int p2]) ++ List.replicate (3 - (lg_sl ([.ref (tA G k 0), .int p1, .int p2])).length) Slot.unset).toArray = ls at hl ⊢
  have hl : lv_has ls 3 [(0, .ref (tA G k 0)), (1, .int p1), (2, .int p2)] := hl
  refine lv_aload_n hx hb d_MT_addStatement_0 rfl (lv_at hl 0 rfl) ?_
  refine lv_iload_n hx hb d_MT_addStatement_1 rfl (lv_at hl 1 rfl) ?_
  refine vp_callSi (W.runV (As := [.int p1]) (rest := []) ⟨hx, hb, hml, hown, hts⟩ (c_MT_isPlace l D G S k p1 N hI hk) (cwV 1 hts (gV kw195 kw196 kw632 kw2 kw197) rfl rfl rfl (by decide +kernel) ⟨by show (0 : Nat) + 1 ≤ 1; omega, by show 8 + (2 + 11) + 0 ≤ 21; omega⟩) ⟨blindR, va_recv (ci := 1) (q0 := 13 + 7 * k) hK hP rfl (wt_0 G S hk), fun U hU hW => ⟨rfl, rPre_of hP hK hN hU hW⟩⟩ rfl rfl hl.1 rfl (lv_room (Nat.le_of_ble_eq_true rfl)) d_MT_addStatement_2 ⟨Nat.zero_le _, Nat.zero_le _⟩) (fun x2 ex2 => ?_)
  obtain ⟨ex2, bx2⟩ := ex2
  refine lv_if_eq (tgt := 15) hx hb d_MT_addStatement_5 (by decide) (fun c_5 => ?_) (fun c_5 => ?_)
  · exact W.vret hx hb hr (fun t ht hW => ⟨⟨S, rfl, ⟨by subst ex2; simp only [f_MT_addStatement, if_pos c_5], hI⟩, by rw [ht]; exact hP, hD⟩, hS.F ht⟩) hS.2.2 d_MT_addStatement_15
  · refine lv_aload_n hx hb d_MT_addStatement_8 rfl (lv_at hl 0 rfl) ?_
    refine va_get (D := D) (ci := 1) (v := .ref (tA G k 2)) (C := R_MT) (T := T_MT) (N := 10) hx hb hts (fun w h => List.mem_cons_of_mem _ (in_MT w h)) hown hK hP (13 + 7 * k) (wt_0 G S hk) rfl 1 (by decide) (hts _ (List.mem_cons_of_mem _ kw23)) (fun _ h9 => h9) rfl d_MT_addStatement_9 ?_
    refine lv_iload_n hx hb d_MT_addStatement_12 rfl (lv_at hl 1 rfl) ?_
    refine lv_iload_n hx hb d_MT_addStatement_13 rfl (lv_at hl 2 rfl) ?_
    refine va_iastE (D := D) hx hb hK hP hD hS (13 + 7 * k + 2) 0 (wt_2 G S hk) rfl (pl_in hI hk (by rw [← ex2]; exact c_5)) (wstt_a2 G S p1.toNatClampNeg p2 hk) d_MT_addStatement_14 (fun H locs hP hD hS => ?_)
    obtain ⟨S14, eS14⟩ : ∃ y : CS, y = stT S k 2 p1.toNatClampNeg p2 := ⟨_, rfl⟩
    rw [← eS14] at hP hD
    have hI : IC N S14 := by rw [eS14]; exact IC_T hI _ _ _ _ (by decide)
    exact W.vret hx hb hr (fun t ht hW => ⟨⟨S14, rfl, ⟨by subst eS14; subst ex2; simp only [f_MT_addStatement, if_neg c_5], hI⟩, by rw [ht]; exact hP, hD⟩, hS.F ht⟩) hS.2.2 d_MT_addStatement_15
set_option maxHeartbeats 4000000 in
set_option maxRecDepth 100000 in
theorem c_MT_hasTwins (l : Launch) (D : va_G) (G : GP) (S : CS) (k : Nat) (N : Nat) (hI : IC N S) (hk : k < 3) : Met l y_MT_hasTwins ws_MT_hasTwins ({ frames := 0, cells := 0, slots := 0, locals := 0 }) (va_Pc [.ref (tA G k 0)] (rPre D G S)) (vp_Si (fun r => r = f_MT_hasTwins S k ∧ bl r)) 0 0 (fun _ => False) := by
  refine Met.ofW (cc := b_MT_hasTwins) (maxL := 1) (ret := (some .boolean)) (by decide) rfl ?_
  intro p e s m args below meth c s₁ B hml hv
  obtain ⟨rfl, hP, hK, hN⟩ := hv
  have hx := B.exec
  have hb := B.bytes
  have hr := B.returns
  have hts := atoms_spec (ws := ws_MT_hasTwins) B.pre
  have hown : s.vm.findClass R_MT = some m.cls := findClass_of_methodNamed B.named
  have hlocks := B.notSynchronized
  have hl := lv_entry ([.ref (tA G k 0)]) (n := 1) (Nat.le_of_ble_eq_true rfl)
  rw [lg_entry_eq]
  generalize (lg_sl ([.ref (tA G k 0)]) ++ List.replicate (1 - (lg_sl ([.ref (tA G k 0)])).length) Slot.unset).toArray = ls at hl ⊢
  have hl : lv_has ls 1 [(0, .ref (tA G k 0))] := hl
  refine lv_aload_n hx hb d_MT_hasTwins_0 rfl (lv_at hl 0 rfl) ?_
  refine va_get (D := D) (ci := 1) (v := .int (S.1 k 0 8)) (C := R_MT) (T := T_MT) (N := 10) hx hb hts (fun w h => List.mem_cons_of_mem _ (in_MT w h)) hown hK hP (13 + 7 * k) (wt_0 G S hk) rfl 8 (by decide) (hts _ (List.mem_cons_of_mem _ kw30)) (fun _ h9 => h9) rfl d_MT_hasTwins_1 ?_
  exact W.zret (v := (S.1 k 0 8)) hx hb hr (bl_nar (hI.1 k hk).2.2.1) (fun t ht hW => ⟨S.1 k 0 8, rfl, ⟨by simp only [f_MT_hasTwins], (hI.1 k hk).2.2.1⟩, ht⟩) (fun q h => absurd h List.not_mem_nil) d_MT_hasTwins_4
set_option maxHeartbeats 4000000 in
set_option maxRecDepth 100000 in
theorem c_MT_mark (l : Launch) (D : va_G) (G : GP) (S : CS) (sz : Nat) (k : Nat) (p1 : Int32) (N : Nat) (hI : IC N S) (hk : k < 3) (hb1 : bl p1) : Met l y_MT_mark ws_MT_mark ({ frames := 0, cells := 0, slots := 0, locals := 0 }) (va_Pc [.ref (tA G k 0), .int p1] (cPre D G S sz)) (va_Qv (fun S' : CS => S' = f_MT_mark S k p1 ∧ IC N S') (wB D G (va_A (wC G S) sz)) (va_A (wC G S) sz)) 0 0 (va_A (wC G S) sz) := by
  refine Met.ofW (cc := b_MT_mark) (maxL := 2) (ret := none) (by decide) rfl ?_
  intro p e s m args below meth c s₁ B hml hv
  obtain ⟨rfl, hsz, hP, hK, hD0, hN⟩ := hv
  have hx := B.exec
  have hb := B.bytes
  have hr := B.returns
  have hts := atoms_spec (ws := ws_MT_mark) B.pre
  have hown : s.vm.findClass R_MT = some m.cls := findClass_of_methodNamed B.named
  have hlocks := B.notSynchronized
  subst hsz
  have hD := hD0.self (sz := s.heap.size)
  generalize hAe : va_A (wC G S) s.heap.size = A at hD ⊢
  have hA : ∀ q : Nat, s.heap.size ≤ q → A q := fun q h => by rw [← hAe]; exact Or.inr h
  have hS : va_S A s.heap s.heap [] := va_S.rf
  have hl := lv_entry ([.ref (tA G k 0), .int p1]) (n := 2) (Nat.le_of_ble_eq_true rfl)
  rw [lg_entry_eq]
  generalize (lg_sl ([.ref (tA G k 0), .int p1]) ++ List.replicate (2 - (lg_sl ([.ref (tA G k 0), .int p1])).length) Slot.unset).toArray = ls at hl ⊢
  have hl : lv_has ls 2 [(0, .ref (tA G k 0)), (1, .int p1)] := hl
  refine lv_aload_n hx hb d_MT_mark_0 rfl (lv_at hl 0 rfl) ?_
  refine lv_iload_n hx hb d_MT_mark_1 rfl (lv_at hl 1 rfl) ?_
  refine va_putE (D := D) (ci := 1) (v := .int p1) (ty := .boolean) (C := R_MT) (T := T_MT) (N := 10) hx hb hts (fun w h => List.mem_cons_of_mem _ (in_MT w h)) t_MT t_MT_ok n_MT hown hK hP hD hS (13 + 7 * k) (wt_0 G S hk) rfl 9 (by decide) (hts _ (List.mem_cons_of_mem _ kw31)) (fun _ h9 => h9) rfl (by decide +kernel) (bl_nar hb1) (bl_fit hb1) (Nat.le_of_ble_eq_true rfl) (wstt_9 G S p1 hk) d_MT_mark_2 (fun H locs hP hD hS => ?_)
  obtain ⟨S2, eS2⟩ : ∃ y : CS, y = stT S k 0 9 p1 := ⟨_, rfl⟩
  rw [← eS2] at hP hD
  have hI : IC N S2 := by rw [eS2]; exact IC_tb hI _ 9 (Or.inr rfl) _ hb1
  exact W.vret hx hb hr (fun t ht hW => ⟨⟨S2, rfl, ⟨by subst eS2; simp only [f_MT_mark], hI⟩, by rw [ht]; exact hP, hD⟩, hS.F ht⟩) hS.2.2 d_MT_mark_5
set_option maxHeartbeats 4000000 in
set_option maxRecDepth 100000 in
theorem c_MT_defined (l : Launch) (D : va_G) (G : GP) (S : CS) (k : Nat) (N : Nat) (hI : IC N S) (hk : k < 3) : Met l y_MT_defined ws_MT_defined ({ frames := 0, cells := 0, slots := 0, locals := 0 }) (va_Pc [.ref (tA G k 0)] (rPre D G S)) (vp_Si (fun r => r = f_MT_defined S k)) 0 0 (fun _ => False) := by
  refine Met.ofW (cc := b_MT_defined) (maxL := 1) (ret := (some .int)) (by decide) rfl ?_
  intro p e s m args below meth c s₁ B hml hv
  obtain ⟨rfl, hP, hK, hN⟩ := hv
  have hx := B.exec
  have hb := B.bytes
  have hr := B.returns
  have hts := atoms_spec (ws := ws_MT_defined) B.pre
  have hown : s.vm.findClass R_MT = some m.cls := findClass_of_methodNamed B.named
  have hlocks := B.notSynchronized
  have hl := lv_entry ([.ref (tA G k 0)]) (n := 1) (Nat.le_of_ble_eq_true rfl)
  rw [lg_entry_eq]
  generalize (lg_sl ([.ref (tA G k 0)]) ++ List.replicate (1 - (lg_sl ([.ref (tA G k 0)])).length) Slot.unset).toArray = ls at hl ⊢
  have hl : lv_has ls 1 [(0, .ref (tA G k 0))] := hl
  refine lv_aload_n hx hb d_MT_defined_0 rfl (lv_at hl 0 rfl) ?_
  refine va_get (D := D) (ci := 1) (v := .int (S.1 k 0 7)) (C := R_MT) (T := T_MT) (N := 10) hx hb hts (fun w h => List.mem_cons_of_mem _ (in_MT w h)) hown hK hP (13 + 7 * k) (wt_0 G S hk) rfl 7 (by decide) (hts _ (List.mem_cons_of_mem _ kw29)) (fun _ h9 => h9) rfl d_MT_defined_1 ?_
  exact W.iret (v := (S.1 k 0 7)) hx hb hr (fun t ht hW => ⟨S.1 k 0 7, rfl, by simp only [f_MT_defined], ht⟩) (fun q h => absurd h List.not_mem_nil) d_MT_defined_4
set_option maxHeartbeats 4000000 in
set_option maxRecDepth 100000 in
theorem c_MT_isCompiled (l : Launch) (D : va_G) (G : GP) (S : CS) (k : Nat) (N : Nat) (hI : IC N S) (hk : k < 3) : Met l y_MT_isCompiled ws_MT_isCompiled ({ frames := 0, cells := 0, slots := 0, locals := 0 }) (va_Pc [.ref (tA G k 0)] (rPre D G S)) (vp_Si (fun r => r = f_MT_isCompiled S k ∧ bl r)) 0 0 (fun _ => False) := by
  refine Met.ofW (cc := b_MT_isCompiled) (maxL := 1) (ret := (some .boolean)) (by decide) rfl ?_
  intro p e s m args below meth c s₁ B hml hv
  obtain ⟨rfl, hP, hK, hN⟩ := hv
  have hx := B.exec
  have hb := B.bytes
  have hr := B.returns
  have hts := atoms_spec (ws := ws_MT_isCompiled) B.pre
  have hown : s.vm.findClass R_MT = some m.cls := findClass_of_methodNamed B.named
  have hlocks := B.notSynchronized
  have hl := lv_entry ([.ref (tA G k 0)]) (n := 1) (Nat.le_of_ble_eq_true rfl)
  rw [lg_entry_eq]
  generalize (lg_sl ([.ref (tA G k 0)]) ++ List.replicate (1 - (lg_sl ([.ref (tA G k 0)])).length) Slot.unset).toArray = ls at hl ⊢
  have hl : lv_has ls 1 [(0, .ref (tA G k 0))] := hl
  refine lv_aload_n hx hb d_MT_isCompiled_0 rfl (lv_at hl 0 rfl) ?_
  refine va_get (D := D) (ci := 1) (v := .int (S.1 k 0 9)) (C := R_MT) (T := T_MT) (N := 10) hx hb hts (fun w h => List.mem_cons_of_mem _ (in_MT w h)) hown hK hP (13 + 7 * k) (wt_0 G S hk) rfl 9 (by decide) (hts _ (List.mem_cons_of_mem _ kw31)) (fun _ h9 => h9) rfl d_MT_isCompiled_1 ?_
  exact W.zret (v := (S.1 k 0 9)) hx hb hr (bl_nar (hI.1 k hk).2.2.2) (fun t ht hW => ⟨S.1 k 0 9, rfl, ⟨by simp only [f_MT_isCompiled], (hI.1 k hk).2.2.2⟩, ht⟩) (fun q h => absurd h List.not_mem_nil) d_MT_isCompiled_4
set_option maxHeartbeats 4000000 in
set_option maxRecDepth 100000 in
theorem c_MT_callsOf (l : Launch) (D : va_G) (G : GP) (S : CS) (k : Nat) (p1 : Int32) (N : Nat) (hI : IC N S) (hk : k < 3) : Met l y_MT_callsOf ws_MT_callsOf ({ frames := 1, cells := 0, slots := 0, locals := 20 }) (va_Pc [.ref (tA G k 0), .int p1] (rPre D G S)) (vp_Si (fun r => r = f_MT_callsOf S k p1)) 0 0 (fun _ => False) := by
  refine Met.ofW (cc := b_MT_callsOf) (maxL := 2) (ret := (some .int)) (by decide) rfl ?_
  intro p e s m args below meth c s₁ B hml hv
  obtain ⟨rfl, hP, hK, hN⟩ := hv
  have hx := B.exec
  have hb := B.bytes
  have hr := B.returns
  have hts := atoms_spec (ws := ws_MT_callsOf) B.pre
  have hown : s.vm.findClass R_MT = some m.cls := findClass_of_methodNamed B.named
  have hlocks := B.notSynchronized
  have hl := lv_entry ([.ref (tA G k 0), .int p1]) (n := 2) (Nat.le_of_ble_eq_true rfl)
  rw [lg_entry_eq]
  generalize (lg_sl ([.ref (tA G k 0), .int p1]) ++ List.replicate (2 - (lg_sl ([.ref (tA G k 0), .int p1])).length) Slot.unset).toArray = ls at hl ⊢
  have hl : lv_has ls 2 [(0, .ref (tA G k 0)), (1, .int p1)] := hl
  refine lv_iload_n hx hb d_MT_callsOf_0 rfl (lv_at hl 1 rfl) ?_
  refine vp_callSi (va_runSN (As := [.int p1]) (rest := []) ⟨hx, hb, hml, hown, hts⟩ (c_GS_isLetterNumber l p1) ⟨va_cnB 1 hts (gW kw173) rfl rfl rfl (hN.1 (R_MT, 47, y_GS_isLetterNumber, "GateStack") (by decide +kernel)) (hts _ (List.mem_cons_of_mem _ kw1)) (by decide +kernel) ⟨by show (0 : Nat) + 1 ≤ 1; omega, by show 8 + (1 + 11) + 0 ≤ 20; omega⟩, (hts _ (List.mem_cons_of_mem _ kw172)), trivial⟩ ⟨blindP, fun U hU hW => ⟨rfl, NW_warm hW hN⟩⟩ rfl rfl hl.1 rfl (lv_room (Nat.le_of_ble_eq_true rfl)) d_MT_callsOf_1 ⟨Nat.zero_le _, Nat.zero_le _⟩).run (fun x1 ex1 => ?_)
  obtain ⟨ex1, bx1⟩ := ex1
  refine lv_if_eq (tgt := 16) hx hb d_MT_callsOf_4 (by decide) (fun c_4 => ?_) (fun c_4 => ?_)
  · refine lv_iconst (v := 0) hx hb d_MT_callsOf_16 (by decide) ?_
    exact W.iret (v := 0) hx hb hr (fun t ht hW => ⟨0, rfl, by subst ex1; simp only [f_MT_callsOf, if_pos c_4], ht⟩) (fun q h => absurd h List.not_mem_nil) d_MT_callsOf_17
  · refine lv_aload_n hx hb d_MT_callsOf_7 rfl (lv_at hl 0 rfl) ?_
    refine va_get (D := D) (ci := 1) (v := .ref (tA G k 6)) (C := R_MT) (T := T_MT) (N := 10) hx hb hts (fun w h => List.mem_cons_of_mem _ (in_MT w h)) hown hK hP (13 + 7 * k) (wt_0 G S hk) rfl 5 (by decide) (hts _ (List.mem_cons_of_mem _ kw27)) (fun _ h9 => h9) rfl d_MT_callsOf_8 ?_
    refine lv_iload_n hx hb d_MT_callsOf_11 rfl (lv_at hl 1 rfl) ?_
    refine va_iald (D := D) hx hb hK hP (13 + 7 * k + 6) 0 (wt_6 G S hk) rfl (let_in (by rw [← ex1]; exact c_4)) d_MT_callsOf_12 ?_
    refine lv_topi (fun x12 ex12 => ?_)
    refine lv_goto (tgt := 17) hx hb d_MT_callsOf_13 (by decide) ?_
    exact W.iret (v := x12) hx hb hr (fun t ht hW => ⟨x12, rfl, by subst ex12; subst ex1; simp only [f_MT_callsOf, if_neg c_4], ht⟩) (fun q h => absurd h List.not_mem_nil) d_MT_callsOf_17
set_option maxHeartbeats 4000000 in
set_option maxRecDepth 100000 in
theorem c_MT_firstPlaceOf (l : Launch) (D : va_G) (G : GP) (S : CS) (k : Nat) (p1 : Int32) (N : Nat) (hI : IC N S) (hk : k < 3) : Met l y_MT_firstPlaceOf ws_MT_firstPlaceOf ({ frames := 1, cells := 0, slots := 0, locals := 20 }) (va_Pc [.ref (tA G k 0), .int p1] (rPre D G S)) (vp_Si (fun r => r = f_MT_firstPlaceOf S k p1)) 0 0 (fun _ => False) := by
  refine Met.ofW (cc := b_MT_firstPlaceOf) (maxL := 2) (ret := (some .int)) (by decide) rfl ?_
  intro p e s m args below meth c s₁ B hml hv
  obtain ⟨rfl, hP, hK, hN⟩ := hv
  have hx := B.exec
  have hb := B.bytes
  have hr := B.returns
  have hts := atoms_spec (ws := ws_MT_firstPlaceOf) B.pre
  have hown : s.vm.findClass R_MT = some m.cls := findClass_of_methodNamed B.named
  have hlocks := B.notSynchronized
  have hl := lv_entry ([.ref (tA G k 0), .int p1]) (n := 2) (Nat.le_of_ble_eq_true rfl)
  rw [lg_entry_eq]
  generalize (lg_sl ([.ref (tA G k 0), .int p1]) ++ List.replicate (2 - (lg_sl ([.ref (tA G k 0), .int p1])).length) Slot.unset).toArray = ls at hl ⊢
  have hl : lv_has ls 2 [(0, .ref (tA G k 0)), (1, .int p1)] := hl
  refine lv_iload_n hx hb d_MT_firstPlaceOf_0 rfl (lv_at hl 1 rfl) ?_
  refine vp_callSi (va_runSN (As := [.int p1]) (rest := []) ⟨hx, hb, hml, hown, hts⟩ (c_GS_isLetterNumber l p1) ⟨va_cnB 1 hts (gW kw173) rfl rfl rfl (hN.1 (R_MT, 47, y_GS_isLetterNumber, "GateStack") (by decide +kernel)) (hts _ (List.mem_cons_of_mem _ kw1)) (by decide +kernel) ⟨by show (0 : Nat) + 1 ≤ 1; omega, by show 8 + (1 + 11) + 0 ≤ 20; omega⟩, (hts _ (List.mem_cons_of_mem _ kw172)), trivial⟩ ⟨blindP, fun U hU hW => ⟨rfl, NW_warm hW hN⟩⟩ rfl rfl hl.1 rfl (lv_room (Nat.le_of_ble_eq_true rfl)) d_MT_firstPlaceOf_1 ⟨Nat.zero_le _, Nat.zero_le _⟩).run (fun x1 ex1 => ?_)
  obtain ⟨ex1, bx1⟩ := ex1
  refine lv_if_eq (tgt := 18) hx hb d_MT_firstPlaceOf_4 (by decide) (fun c_4 => ?_) (fun c_4 => ?_)
  · refine lv_iconst (v := 0) hx hb d_MT_firstPlaceOf_18 (by decide) ?_
    exact W.iret (v := 0) hx hb hr (fun t ht hW => ⟨0, rfl, by subst ex1; simp only [f_MT_firstPlaceOf, if_pos c_4], ht⟩) (fun q h => absurd h List.not_mem_nil) d_MT_firstPlaceOf_19
  · refine lv_aload_n hx hb d_MT_firstPlaceOf_7 rfl (lv_at hl 0 rfl) ?_
    refine va_get (D := D) (ci := 1) (v := .ref (tA G k 5)) (C := R_MT) (T := T_MT) (N := 10) hx hb hts (fun w h => List.mem_cons_of_mem _ (in_MT w h)) hown hK hP (13 + 7 * k) (wt_0 G S hk) rfl 4 (by decide) (hts _ (List.mem_cons_of_mem _ kw26)) (fun _ h9 => h9) rfl d_MT_firstPlaceOf_8 ?_
    refine lv_iload_n hx hb d_MT_firstPlaceOf_11 rfl (lv_at hl 1 rfl) ?_
    refine va_iald (D := D) hx hb hK hP (13 + 7 * k + 5) 0 (wt_5 G S hk) rfl (let_in (by rw [← ex1]; exact c_4)) d_MT_firstPlaceOf_12 ?_
    refine lv_topi (fun x12 ex12 => ?_)
    refine lv_iconst (v := 2) hx hb d_MT_firstPlaceOf_13 (by decide) ?_
    refine lv_iadd hx hb d_MT_firstPlaceOf_14 ?_
    refine lv_topi (fun x14 ex14 => ?_)
    refine lv_goto (tgt := 19) hx hb d_MT_firstPlaceOf_15 (by decide) ?_
    exact W.iret (v := x14) hx hb hr (fun t ht hW => ⟨x14, rfl, by subst ex14; subst ex12; subst ex1; simp only [f_MT_firstPlaceOf, if_neg c_4], ht⟩) (fun q h => absurd h List.not_mem_nil) d_MT_firstPlaceOf_19
set_option maxHeartbeats 4000000 in
set_option maxRecDepth 100000 in
theorem c_MT_endsProcedure (l : Launch) (D : va_G) (G : GP) (S : CS) (k : Nat) (p1 : Int32) (N : Nat) (hI : IC N S) (hk : k < 3) : Met l y_MT_endsProcedure ws_MT_endsProcedure ({ frames := 1, cells := 0, slots := 0, locals := 21 }) (va_Pc [.ref (tA G k 0), .int p1] (rPre D G S)) (vp_Si (fun r => r = f_MT_endsProcedure S k p1 ∧ bl r)) 0 0 (fun _ => False) := by
  refine Met.ofW (cc := b_MT_endsProcedure) (maxL := 2) (ret := (some .boolean)) (by decide) rfl ?_
  intro p e s m args below meth c s₁ B hml hv
  obtain ⟨rfl, hP, hK, hN⟩ := hv
  have hx := B.exec
  have hb := B.bytes
  have hr := B.returns
  have hts := atoms_spec (ws := ws_MT_endsProcedure) B.pre
  have hown : s.vm.findClass R_MT = some m.cls := findClass_of_methodNamed B.named
  have hlocks := B.notSynchronized
  have hl := lv_entry ([.ref (tA G k 0), .int p1]) (n := 2) (Nat.le_of_ble_eq_true rfl)
  rw [lg_entry_eq]
  generalize (lg_sl ([.ref (tA G k 0), .int p1]) ++ List.replicate (2 - (lg_sl ([.ref (tA G k 0), .int p1])).length) Slot.unset).toArray = ls at hl ⊢
  have hl : lv_has ls 2 [(0, .ref (tA G k 0)), (1, .int p1)] := hl
  refine lv_aload_n hx hb d_MT_endsProcedure_0 rfl (lv_at hl 0 rfl) ?_
  refine lv_iload_n hx hb d_MT_endsProcedure_1 rfl (lv_at hl 1 rfl) ?_
  refine vp_callSi (W.runV (As := [.int p1]) (rest := []) ⟨hx, hb, hml, hown, hts⟩ (c_MT_isPlace l D G S k p1 N hI hk) (cwV 1 hts (gV kw195 kw196 kw632 kw2 kw197) rfl rfl rfl (by decide +kernel) ⟨by show (0 : Nat) + 1 ≤ 1; omega, by show 8 + (2 + 11) + 0 ≤ 21; omega⟩) ⟨blindR, va_recv (ci := 1) (q0 := 13 + 7 * k) hK hP rfl (wt_0 G S hk), fun U hU hW => ⟨rfl, rPre_of hP hK hN hU hW⟩⟩ rfl rfl hl.1 rfl (lv_room (Nat.le_of_ble_eq_true rfl)) d_MT_endsProcedure_2 ⟨Nat.zero_le _, Nat.zero_le _⟩) (fun x2 ex2 => ?_)
  obtain ⟨ex2, bx2⟩ := ex2
  refine lv_if_eq (tgt := 28) hx hb d_MT_endsProcedure_5 (by decide) (fun c_5 => ?_) (fun c_5 => ?_)
  · refine lv_iconst (v := 0) hx hb d_MT_endsProcedure_28 (by decide) ?_
    exact W.zret (v := 0) hx hb hr (bl_nar (Or.inl rfl)) (fun t ht hW => ⟨0, rfl, ⟨by subst ex2; simp only [f_MT_endsProcedure, if_pos c_5], (Or.inl rfl)⟩, ht⟩) (fun q h => absurd h List.not_mem_nil) d_MT_endsProcedure_29
  · refine lv_aload_n hx hb d_MT_endsProcedure_8 rfl (lv_at hl 0 rfl) ?_
    refine lv_aload_n hx hb d_MT_endsProcedure_9 rfl (lv_at hl 0 rfl) ?_
    refine va_get (D := D) (ci := 1) (v := .ref (tA G k 3)) (C := R_MT) (T := T_MT) (N := 10) hx hb hts (fun w h => List.mem_cons_of_mem _ (in_MT w h)) hown hK hP (13 + 7 * k) (wt_0 G S hk) rfl 2 (by decide) (hts _ (List.mem_cons_of_mem _ kw24)) (fun _ h9 => h9) rfl d_MT_endsProcedure_10 ?_
    refine lv_iload_n hx hb d_MT_endsProcedure_13 rfl (lv_at hl 1 rfl) ?_
    refine va_iald (D := D) hx hb hK hP (13 + 7 * k + 3) 0 (wt_3 G S hk) rfl (pl_in hI hk (by rw [← ex2]; exact c_5)) d_MT_endsProcedure_14 ?_
    refine lv_topi (fun x14 ex14 => ?_)
    refine vp_callSi (W.runV (As := [.int x14]) (rest := []) ⟨hx, hb, hml, hown, hts⟩ (c_MT_signAt l D G S k x14 N hI hk) (cwV 1 hts (gV kw321 kw160 kw161 kw2 kw162) rfl rfl rfl (by decide +kernel) ⟨by show (0 : Nat) + 1 ≤ 1; omega, by show 8 + (2 + 11) + 0 ≤ 21; omega⟩) ⟨blindR, va_recv (ci := 1) (q0 := 13 + 7 * k) hK hP rfl (wt_0 G S hk), fun U hU hW => ⟨rfl, rPre_of hP hK hN hU hW⟩⟩ rfl rfl hl.1 rfl (lv_room (Nat.le_of_ble_eq_true rfl)) d_MT_endsProcedure_15 ⟨Nat.zero_le _, Nat.zero_le _⟩) (fun x15 ex15 => ?_)
    refine vp_callSi (va_runSN (As := [.int x15]) (rest := []) ⟨hx, hb, hml, hown, hts⟩ (c_GS_isLetter l x15) ⟨va_cnB 1 hts (gW kw167) rfl rfl rfl (hN.1 (R_MT, 62, y_GS_isLetter, "GateStack") (by decide +kernel)) (hts _ (List.mem_cons_of_mem _ kw1)) (by decide +kernel) ⟨by show (0 : Nat) + 1 ≤ 1; omega, by show 8 + (1 + 11) + 0 ≤ 21; omega⟩, (hts _ (List.mem_cons_of_mem _ kw166)), trivial⟩ ⟨blindP, fun U hU hW => ⟨rfl, NW_warm hW hN⟩⟩ rfl rfl hl.1 rfl (lv_room (Nat.le_of_ble_eq_true rfl)) d_MT_endsProcedure_18 ⟨Nat.zero_le _, Nat.zero_le _⟩).run (fun x18 ex18 => ?_)
    obtain ⟨ex18, bx18⟩ := ex18
    refine lv_if_eq (tgt := 28) hx hb d_MT_endsProcedure_21 (by decide) (fun c_21 => ?_) (fun c_21 => ?_)
    · refine lv_iconst (v := 0) hx hb d_MT_endsProcedure_28 (by decide) ?_
      exact W.zret (v := 0) hx hb hr (bl_nar (Or.inl rfl)) (fun t ht hW => ⟨0, rfl, ⟨by subst ex18; subst ex15; subst ex14; subst ex2; simp only [f_MT_endsProcedure, if_neg c_5, if_pos c_21], (Or.inl rfl)⟩, ht⟩) (fun q h => absurd h List.not_mem_nil) d_MT_endsProcedure_29
    · refine lv_iconst (v := 1) hx hb d_MT_endsProcedure_24 (by decide) ?_
      refine lv_goto (tgt := 29) hx hb d_MT_endsProcedure_25 (by decide) ?_
      exact W.zret (v := 1) hx hb hr (bl_nar (Or.inr rfl)) (fun t ht hW => ⟨1, rfl, ⟨by subst ex18; subst ex15; subst ex14; subst ex2; simp only [f_MT_endsProcedure, if_neg c_5, if_neg c_21], (Or.inr rfl)⟩, ht⟩) (fun q h => absurd h List.not_mem_nil) d_MT_endsProcedure_29
set_option maxHeartbeats 4000000 in
set_option maxRecDepth 100000 in
theorem c_MT_behindEndOf (l : Launch) (D : va_G) (G : GP) (S : CS) (k : Nat) (p1 : Int32) (N : Nat) (hI : IC N S) (hk : k < 3) : Met l y_MT_behindEndOf ws_MT_behindEndOf ({ frames := 1, cells := 0, slots := 0, locals := 21 }) (va_Pc [.ref (tA G k 0), .int p1] (rPre D G S)) (vp_Si (fun r => r = f_MT_behindEndOf S k p1)) 0 0 (fun _ => False) := by
  refine Met.ofW (cc := b_MT_behindEndOf) (maxL := 2) (ret := (some .int)) (by decide) rfl ?_
  intro p e s m args below meth c s₁ B hml hv
  obtain ⟨rfl, hP, hK, hN⟩ := hv
  have hx := B.exec
  have hb := B.bytes
  have hr := B.returns
  have hts := atoms_spec (ws := ws_MT_behindEndOf) B.pre
  have hown : s.vm.findClass R_MT = some m.cls := findClass_of_methodNamed B.named
  have hlocks := B.notSynchronized
  have hl := lv_entry ([.ref (tA G k 0), .int p1]) (n := 2) (Nat.le_of_ble_eq_true rfl)
  rw [lg_entry_eq]
  generalize (lg_sl ([.ref (tA G k 0), .int p1]) ++ List.replicate (2 - (lg_sl ([.ref (tA G k 0), .int p1])).length) Slot.unset).toArray = ls at hl ⊢
  have hl : lv_has ls 2 [(0, .ref (tA G k 0)), (1, .int p1)] := hl
  refine lv_aload_n hx hb d_MT_behindEndOf_0 rfl (lv_at hl 0 rfl) ?_
  refine lv_iload_n hx hb d_MT_behindEndOf_1 rfl (lv_at hl 1 rfl) ?_
  refine vp_callSi (W.runV (As := [.int p1]) (rest := []) ⟨hx, hb, hml, hown, hts⟩ (c_MT_isPlace l D G S k p1 N hI hk) (cwV 1 hts (gV kw195 kw196 kw632 kw2 kw197) rfl rfl rfl (by decide +kernel) ⟨by show (0 : Nat) + 1 ≤ 1; omega, by show 8 + (2 + 11) + 0 ≤ 21; omega⟩) ⟨blindR, va_recv (ci := 1) (q0 := 13 + 7 * k) hK hP rfl (wt_0 G S hk), fun U hU hW => ⟨rfl, rPre_of hP hK hN hU hW⟩⟩ rfl rfl hl.1 rfl (lv_room (Nat.le_of_ble_eq_true rfl)) d_MT_behindEndOf_2 ⟨Nat.zero_le _, Nat.zero_le _⟩) (fun x2 ex2 => ?_)
  obtain ⟨ex2, bx2⟩ := ex2
  refine lv_if_eq (tgt := 19) hx hb d_MT_behindEndOf_5 (by decide) (fun c_5 => ?_) (fun c_5 => ?_)
  · refine lv_iload_n hx hb d_MT_behindEndOf_19 rfl (lv_at hl 1 rfl) ?_
    exact W.iret (v := p1) hx hb hr (fun t ht hW => ⟨p1, rfl, by subst ex2; simp only [f_MT_behindEndOf, if_pos c_5], ht⟩) (fun q h => absurd h List.not_mem_nil) d_MT_behindEndOf_20
  · refine lv_aload_n hx hb d_MT_behindEndOf_8 rfl (lv_at hl 0 rfl) ?_
    refine va_get (D := D) (ci := 1) (v := .ref (tA G k 4)) (C := R_MT) (T := T_MT) (N := 10) hx hb hts (fun w h => List.mem_cons_of_mem _ (in_MT w h)) hown hK hP (13 + 7 * k) (wt_0 G S hk) rfl 3 (by decide) (hts _ (List.mem_cons_of_mem _ kw25)) (fun _ h9 => h9) rfl d_MT_behindEndOf_9 ?_
    refine lv_iload_n hx hb d_MT_behindEndOf_12 rfl (lv_at hl 1 rfl) ?_
    refine va_iald (D := D) hx hb hK hP (13 + 7 * k + 4) 0 (wt_4 G S hk) rfl (pl_in hI hk (by rw [← ex2]; exact c_5)) d_MT_behindEndOf_13 ?_
    refine lv_topi (fun x13 ex13 => ?_)
    refine lv_iconst (v := 1) hx hb d_MT_behindEndOf_14 (by decide) ?_
    refine lv_iadd hx hb d_MT_behindEndOf_15 ?_
    refine lv_topi (fun x15 ex15 => ?_)
    refine lv_goto (tgt := 20) hx hb d_MT_behindEndOf_16 (by decide) ?_
    exact W.iret (v := x15) hx hb hr (fun t ht hW => ⟨x15, rfl, by subst ex15; subst ex13; subst ex2; simp only [f_MT_behindEndOf, if_neg c_5], ht⟩) (fun q h => absurd h List.not_mem_nil) d_MT_behindEndOf_20
set_option maxHeartbeats 4000000 in
set_option maxRecDepth 100000 in
theorem c_MT_behindBlock (l : Launch) (D : va_G) (G : GP) (S : CS) (k : Nat) (p1 : Int32) (N : Nat) (hI : IC N S) (hk : k < 3) : Met l y_MT_behindBlock ws_MT_behindBlock ({ frames := 2, cells := 0, slots := 0, locals := 42 }) (va_Pc [.ref (tA G k 0), .int p1] (rPre D G S)) (vp_Si (fun r => r = f_MT_behindBlock S k p1)) 0 0 (fun _ => False) := by
  refine Met.ofW (cc := b_MT_behindBlock) (maxL := 3) (ret := (some .int)) (by decide) rfl ?_
  intro p e s m args below meth c s₁ B hml hv
  obtain ⟨rfl, hP, hK, hN⟩ := hv
  have hx := B.exec
  have hb := B.bytes
  have hr := B.returns
  have hts := atoms_spec (ws := ws_MT_behindBlock) B.pre
  have hown : s.vm.findClass R_MT = some m.cls := findClass_of_methodNamed B.named
  have hlocks := B.notSynchronized
  have hl := lv_entry ([.ref (tA G k 0), .int p1]) (n := 3) (Nat.le_of_ble_eq_true rfl)
  rw [lg_entry_eq]
  generalize (lg_sl ([.ref (tA G k 0), .int p1]) ++ List.replicate (3 - (lg_sl ([.ref (tA G k 0), .int p1])).length) Slot.unset).toArray = ls at hl ⊢
  have hl : lv_has ls 3 [(0, .ref (tA G k 0)), (1, .int p1)] := hl
  refine lv_aload_n hx hb d_MT_behindBlock_0 rfl (lv_at hl 0 rfl) ?_
  refine lv_iload_n hx hb d_MT_behindBlock_1 rfl (lv_at hl 1 rfl) ?_
  refine vp_callSi (W.runV (As := [.int p1]) (rest := []) ⟨hx, hb, hml, hown, hts⟩ (c_MT_isPlace l D G S k p1 N hI hk) (cwV 1 hts (gV kw195 kw196 kw632 kw2 kw197) rfl rfl rfl (by decide +kernel) ⟨by show (0 : Nat) + 1 ≤ 2; omega, by show 8 + (2 + 11) + 0 ≤ 42; omega⟩) ⟨blindR, va_recv (ci := 1) (q0 := 13 + 7 * k) hK hP rfl (wt_0 G S hk), fun U hU hW => ⟨rfl, rPre_of hP hK hN hU hW⟩⟩ rfl rfl hl.1 rfl (lv_room (Nat.le_of_ble_eq_true rfl)) d_MT_behindBlock_2 ⟨Nat.zero_le _, Nat.zero_le _⟩) (fun x2 ex2 => ?_)
  obtain ⟨ex2, bx2⟩ := ex2
  refine lv_if_ne (tgt := 10) hx hb d_MT_behindBlock_5 (by decide) (fun c_5 => ?_) (fun c_5 => ?_)
  · refine lv_aload_n hx hb d_MT_behindBlock_10 rfl (lv_at hl 0 rfl) ?_
    refine lv_aload_n hx hb d_MT_behindBlock_11 rfl (lv_at hl 0 rfl) ?_
    refine va_get (D := D) (ci := 1) (v := .ref (tA G k 3)) (C := R_MT) (T := T_MT) (N := 10) hx hb hts (fun w h => List.mem_cons_of_mem _ (in_MT w h)) hown hK hP (13 + 7 * k) (wt_0 G S hk) rfl 2 (by decide) (hts _ (List.mem_cons_of_mem _ kw24)) (fun _ h9 => h9) rfl d_MT_behindBlock_12 ?_
    refine lv_iload_n hx hb d_MT_behindBlock_15 rfl (lv_at hl 1 rfl) ?_
    refine va_iald (D := D) hx hb hK hP (13 + 7 * k + 3) 0 (wt_3 G S hk) rfl (pl_in hI hk (by rw [← ex2]; exact c_5)) d_MT_behindBlock_16 ?_
    refine lv_topi (fun x16 ex16 => ?_)
    refine vp_callSi (W.runV (As := [.int x16]) (rest := []) ⟨hx, hb, hml, hown, hts⟩ (c_MT_signAt l D G S k x16 N hI hk) (cwV 1 hts (gV kw321 kw160 kw161 kw2 kw162) rfl rfl rfl (by decide +kernel) ⟨by show (0 : Nat) + 1 ≤ 2; omega, by show 8 + (2 + 11) + 0 ≤ 42; omega⟩) ⟨blindR, va_recv (ci := 1) (q0 := 13 + 7 * k) hK hP rfl (wt_0 G S hk), fun U hU hW => ⟨rfl, rPre_of hP hK hN hU hW⟩⟩ rfl rfl hl.1 rfl (lv_room (Nat.le_of_ble_eq_true rfl)) d_MT_behindBlock_17 ⟨Nat.zero_le _, Nat.zero_le _⟩) (fun x17 ex17 => ?_)
    refine lv_bipush (v := 64) hx hb d_MT_behindBlock_20 (by decide) ?_
    refine lv_icmp_ne (tgt := 32) hx hb d_MT_behindBlock_22 (by decide) (fun c_22 => ?_) (fun c_22 => ?_)
    · refine lv_iload_n hx hb d_MT_behindBlock_32 rfl (lv_at hl 1 rfl) ?_
      refine lv_iconst (v := 1) hx hb d_MT_behindBlock_33 (by decide) ?_
      refine lv_iadd hx hb d_MT_behindBlock_34 ?_
      refine lv_topi (fun x34 ex34 => ?_)
      refine lv_istore_n (lv' := [(2, .int x34), (0, .ref (tA G k 0)), (1, .int p1)]) hx hb d_MT_behindBlock_35 rfl hl (by decide) rfl (fun ls hl => ?_)
      refine lv_aload_n hx hb d_MT_behindBlock_36 rfl (lv_at hl 1 rfl) ?_
      refine lv_iload_n hx hb d_MT_behindBlock_37 rfl (lv_at hl 0 rfl) ?_
      refine vp_callSi (W.runV (As := [.int x34]) (rest := []) ⟨hx, hb, hml, hown, hts⟩ (c_MT_signAt l D G S k x34 N hI hk) (cwV 1 hts (gV kw321 kw160 kw161 kw2 kw162) rfl rfl rfl (by decide +kernel) ⟨by show (0 : Nat) + 1 ≤ 2; omega, by show 8 + (2 + 11) + 0 ≤ 42; omega⟩) ⟨blindR, va_recv (ci := 1) (q0 := 13 + 7 * k) hK hP rfl (wt_0 G S hk), fun U hU hW => ⟨rfl, rPre_of hP hK hN hU hW⟩⟩ rfl rfl hl.1 rfl (lv_room (Nat.le_of_ble_eq_true rfl)) d_MT_behindBlock_38 ⟨Nat.zero_le _, Nat.zero_le _⟩) (fun x38 ex38 => ?_)
      refine lv_bipush (v := 58) hx hb d_MT_behindBlock_41 (by decide) ?_
      refine lv_icmp_ne (tgt := 54) hx hb d_MT_behindBlock_43 (by decide) (fun c_43 => ?_) (fun c_43 => ?_)
      · refine lv_iload_n hx hb d_MT_behindBlock_54 rfl (lv_at hl 0 rfl) ?_
        exact W.iret (v := x34) hx hb hr (fun t ht hW => ⟨x34, rfl, by subst ex38; subst ex34; subst ex17; subst ex16; subst ex2; simp only [f_MT_behindBlock, if_neg c_5, if_neg c_22, if_neg c_43], ht⟩) (fun q h => absurd h List.not_mem_nil) d_MT_behindBlock_55
      · refine lv_aload_n hx hb d_MT_behindBlock_46 rfl (lv_at hl 1 rfl) ?_
        refine lv_iload_n hx hb d_MT_behindBlock_47 rfl (lv_at hl 0 rfl) ?_
        refine vp_callSi (W.runV (As := [.int x34]) (rest := []) ⟨hx, hb, hml, hown, hts⟩ (c_MT_behindEndOf l D G S k x34 N hI hk) (cwV 1 hts (gV kw326 kw327 kw646 kw2 kw328) rfl rfl rfl (by decide +kernel) ⟨by show (1 : Nat) + 1 ≤ 2; omega, by show 8 + (2 + 11) + 21 ≤ 42; omega⟩) ⟨blindR, va_recv (ci := 1) (q0 := 13 + 7 * k) hK hP rfl (wt_0 G S hk), fun U hU hW => ⟨rfl, rPre_of hP hK hN hU hW⟩⟩ rfl rfl hl.1 rfl (lv_room (Nat.le_of_ble_eq_true rfl)) d_MT_behindBlock_48 ⟨Nat.zero_le _, Nat.zero_le _⟩) (fun x48 ex48 => ?_)
        refine lv_goto (tgt := 55) hx hb d_MT_behindBlock_51 (by decide) ?_
        exact W.iret (v := x48) hx hb hr (fun t ht hW => ⟨x48, rfl, by subst ex48; subst ex38; subst ex34; subst ex17; subst ex16; subst ex2; simp only [f_MT_behindBlock, if_neg c_5, if_neg c_22, if_pos c_43], ht⟩) (fun q h => absurd h List.not_mem_nil) d_MT_behindBlock_55
    · refine lv_aload_n hx hb d_MT_behindBlock_25 rfl (lv_at hl 0 rfl) ?_
      refine va_get (D := D) (ci := 1) (v := .ref (tA G k 3)) (C := R_MT) (T := T_MT) (N := 10) hx hb hts (fun w h => List.mem_cons_of_mem _ (in_MT w h)) hown hK hP (13 + 7 * k) (wt_0 G S hk) rfl 2 (by decide) (hts _ (List.mem_cons_of_mem _ kw24)) (fun _ h9 => h9) rfl d_MT_behindBlock_26 ?_
      refine lv_iload_n hx hb d_MT_behindBlock_29 rfl (lv_at hl 1 rfl) ?_
      refine va_iald (D := D) hx hb hK hP (13 + 7 * k + 3) 0 (wt_3 G S hk) rfl (pl_in hI hk (by rw [← ex2]; exact c_5)) d_MT_behindBlock_30 ?_
      refine lv_topi (fun x30 ex30 => ?_)
      exact W.iret (v := x30) hx hb hr (fun t ht hW => ⟨x30, rfl, by subst ex30; subst ex17; subst ex16; subst ex2; simp only [f_MT_behindBlock, if_neg c_5, if_pos c_22], ht⟩) (fun q h => absurd h List.not_mem_nil) d_MT_behindBlock_31
  · refine lv_iload_n hx hb d_MT_behindBlock_8 rfl (lv_at hl 1 rfl) ?_
    exact W.iret (v := p1) hx hb hr (fun t ht hW => ⟨p1, rfl, by subst ex2; simp only [f_MT_behindBlock, if_pos c_5], ht⟩) (fun q h => absurd h List.not_mem_nil) d_MT_behindBlock_9
set_option maxHeartbeats 4000000 in
set_option maxRecDepth 100000 in
theorem c_MT_placeIfZero (l : Launch) (D : va_G) (G : GP) (S : CS) (k : Nat) (p1 : Int32) (N : Nat) (hI : IC N S) (hk : k < 3) : Met l y_MT_placeIfZero ws_MT_placeIfZero ({ frames := 2, cells := 0, slots := 0, locals := 42 }) (va_Pc [.ref (tA G k 0), .int p1] (rPre D G S)) (vp_Si (fun r => r = f_MT_placeIfZero S k p1)) 0 0 (fun _ => False) := by
  refine Met.ofW (cc := b_MT_placeIfZero) (maxL := 3) (ret := (some .int)) (by decide) rfl ?_
  intro p e s m args below meth c s₁ B hml hv
  obtain ⟨rfl, hP, hK, hN⟩ := hv
  have hx := B.exec
  have hb := B.bytes
  have hr := B.returns
  have hts := atoms_spec (ws := ws_MT_placeIfZero) B.pre
  have hown : s.vm.findClass R_MT = some m.cls := findClass_of_methodNamed B.named
  have hlocks := B.notSynchronized
  have hl := lv_entry ([.ref (tA G k 0), .int p1]) (n := 3) (Nat.le_of_ble_eq_true rfl)
  rw [lg_entry_eq]
  generalize (lg_sl ([.ref (tA G k 0), .int p1]) ++ List.replicate (3 - (lg_sl ([.ref (tA G k 0), .int p1])).length) Slot.unset).toArray = ls at hl ⊢
  have hl : lv_has ls 3 [(0, .ref (tA G k 0)), (1, .int p1)] := hl
  refine lv_aload_n hx hb d_MT_placeIfZero_0 rfl (lv_at hl 0 rfl) ?_
  refine lv_iload_n hx hb d_MT_placeIfZero_1 rfl (lv_at hl 1 rfl) ?_
  refine vp_callSi (W.runV (As := [.int p1]) (rest := []) ⟨hx, hb, hml, hown, hts⟩ (c_MT_behindEndOf l D G S k p1 N hI hk) (cwV 1 hts (gV kw326 kw327 kw646 kw2 kw328) rfl rfl rfl (by decide +kernel) ⟨by show (1 : Nat) + 1 ≤ 2; omega, by show 8 + (2 + 11) + 21 ≤ 42; omega⟩) ⟨blindR, va_recv (ci := 1) (q0 := 13 + 7 * k) hK hP rfl (wt_0 G S hk), fun U hU hW => ⟨rfl, rPre_of hP hK hN hU hW⟩⟩ rfl rfl hl.1 rfl (lv_room (Nat.le_of_ble_eq_true rfl)) d_MT_placeIfZero_2 ⟨Nat.zero_le _, Nat.zero_le _⟩) (fun x2 ex2 => ?_)
  refine lv_istore_n (lv' := [(2, .int x2), (0, .ref (tA G k 0)), (1, .int p1)]) hx hb d_MT_placeIfZero_5 rfl hl (by decide) rfl (fun ls hl => ?_)
  refine lv_aload_n hx hb d_MT_placeIfZero_6 rfl (lv_at hl 1 rfl) ?_
  refine lv_iload_n hx hb d_MT_placeIfZero_7 rfl (lv_at hl 0 rfl) ?_
  refine vp_callSi (W.runV (As := [.int x2]) (rest := []) ⟨hx, hb, hml, hown, hts⟩ (c_MT_signAt l D G S k x2 N hI hk) (cwV 1 hts (gV kw321 kw160 kw161 kw2 kw162) rfl rfl rfl (by decide +kernel) ⟨by show (0 : Nat) + 1 ≤ 2; omega, by show 8 + (2 + 11) + 0 ≤ 42; omega⟩) ⟨blindR, va_recv (ci := 1) (q0 := 13 + 7 * k) hK hP rfl (wt_0 G S hk), fun U hU hW => ⟨rfl, rPre_of hP hK hN hU hW⟩⟩ rfl rfl hl.1 rfl (lv_room (Nat.le_of_ble_eq_true rfl)) d_MT_placeIfZero_8 ⟨Nat.zero_le _, Nat.zero_le _⟩) (fun x8 ex8 => ?_)
  refine lv_bipush (v := 58) hx hb d_MT_placeIfZero_11 (by decide) ?_
  refine lv_icmp_ne (tgt := 22) hx hb d_MT_placeIfZero_13 (by decide) (fun c_13 => ?_) (fun c_13 => ?_)
  · refine lv_iload_n hx hb d_MT_placeIfZero_22 rfl (lv_at hl 0 rfl) ?_
    exact W.iret (v := x2) hx hb hr (fun t ht hW => ⟨x2, rfl, by subst ex8; subst ex2; simp only [f_MT_placeIfZero, if_neg c_13], ht⟩) (fun q h => absurd h List.not_mem_nil) d_MT_placeIfZero_23
  · refine lv_iload_n hx hb d_MT_placeIfZero_16 rfl (lv_at hl 0 rfl) ?_
    refine lv_iconst (v := 2) hx hb d_MT_placeIfZero_17 (by decide) ?_
    refine lv_iadd hx hb d_MT_placeIfZero_18 ?_
    refine lv_topi (fun x18 ex18 => ?_)
    refine lv_goto (tgt := 23) hx hb d_MT_placeIfZero_19 (by decide) ?_
    exact W.iret (v := x18) hx hb hr (fun t ht hW => ⟨x18, rfl, by subst ex18; subst ex8; subst ex2; simp only [f_MT_placeIfZero, if_pos c_13], ht⟩) (fun q h => absurd h List.not_mem_nil) d_MT_placeIfZero_23
set_option maxHeartbeats 4000000 in
set_option maxRecDepth 100000 in
theorem c_MT_numberAt (l : Launch) (D : va_G) (G : GP) (S : CS) (k : Nat) (p1 : Int32) (N : Nat) (hI : IC N S) (hk : k < 3) : Met l y_MT_numberAt ws_MT_numberAt ({ frames := 1, cells := 0, slots := 0, locals := 21 }) (va_Pc [.ref (tA G k 0), .int p1] (rPre D G S)) (vp_Si (fun r => r = f_MT_numberAt S k p1)) 0 0 (fun _ => False) := by
  refine Met.ofW (cc := b_MT_numberAt) (maxL := 2) (ret := (some .int)) (by decide) rfl ?_
  intro p e s m args below meth c s₁ B hml hv
  obtain ⟨rfl, hP, hK, hN⟩ := hv
  have hx := B.exec
  have hb := B.bytes
  have hr := B.returns
  have hts := atoms_spec (ws := ws_MT_numberAt) B.pre
  have hown : s.vm.findClass R_MT = some m.cls := findClass_of_methodNamed B.named
  have hlocks := B.notSynchronized
  have hl := lv_entry ([.ref (tA G k 0), .int p1]) (n := 2) (Nat.le_of_ble_eq_true rfl)
  rw [lg_entry_eq]
  generalize (lg_sl ([.ref (tA G k 0), .int p1]) ++ List.replicate (2 - (lg_sl ([.ref (tA G k 0), .int p1])).length) Slot.unset).toArray = ls at hl ⊢
  have hl : lv_has ls 2 [(0, .ref (tA G k 0)), (1, .int p1)] := hl
  refine lv_aload_n hx hb d_MT_numberAt_0 rfl (lv_at hl 0 rfl) ?_
  refine lv_iload_n hx hb d_MT_numberAt_1 rfl (lv_at hl 1 rfl) ?_
  refine vp_callSi (W.runV (As := [.int p1]) (rest := []) ⟨hx, hb, hml, hown, hts⟩ (c_MT_isPlace l D G S k p1 N hI hk) (cwV 1 hts (gV kw195 kw196 kw632 kw2 kw197) rfl rfl rfl (by decide +kernel) ⟨by show (0 : Nat) + 1 ≤ 1; omega, by show 8 + (2 + 11) + 0 ≤ 21; omega⟩) ⟨blindR, va_recv (ci := 1) (q0 := 13 + 7 * k) hK hP rfl (wt_0 G S hk), fun U hU hW => ⟨rfl, rPre_of hP hK hN hU hW⟩⟩ rfl rfl hl.1 rfl (lv_room (Nat.le_of_ble_eq_true rfl)) d_MT_numberAt_2 ⟨Nat.zero_le _, Nat.zero_le _⟩) (fun x2 ex2 => ?_)
  obtain ⟨ex2, bx2⟩ := ex2
  refine lv_if_eq (tgt := 17) hx hb d_MT_numberAt_5 (by decide) (fun c_5 => ?_) (fun c_5 => ?_)
  · refine lv_iconst (v := 0) hx hb d_MT_numberAt_17 (by decide) ?_
    exact W.iret (v := 0) hx hb hr (fun t ht hW => ⟨0, rfl, by subst ex2; simp only [f_MT_numberAt, if_pos c_5], ht⟩) (fun q h => absurd h List.not_mem_nil) d_MT_numberAt_18
  · refine lv_aload_n hx hb d_MT_numberAt_8 rfl (lv_at hl 0 rfl) ?_
    refine va_get (D := D) (ci := 1) (v := .ref (tA G k 2)) (C := R_MT) (T := T_MT) (N := 10) hx hb hts (fun w h => List.mem_cons_of_mem _ (in_MT w h)) hown hK hP (13 + 7 * k) (wt_0 G S hk) rfl 1 (by decide) (hts _ (List.mem_cons_of_mem _ kw23)) (fun _ h9 => h9) rfl d_MT_numberAt_9 ?_
    refine lv_iload_n hx hb d_MT_numberAt_12 rfl (lv_at hl 1 rfl) ?_
    refine va_iald (D := D) hx hb hK hP (13 + 7 * k + 2) 0 (wt_2 G S hk) rfl (pl_in hI hk (by rw [← ex2]; exact c_5)) d_MT_numberAt_13 ?_
    refine lv_topi (fun x13 ex13 => ?_)
    refine lv_goto (tgt := 18) hx hb d_MT_numberAt_14 (by decide) ?_
    exact W.iret (v := x13) hx hb hr (fun t ht hW => ⟨x13, rfl, by subst ex13; subst ex2; simp only [f_MT_numberAt, if_neg c_5], ht⟩) (fun q h => absurd h List.not_mem_nil) d_MT_numberAt_18
