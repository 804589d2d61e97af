set_option maxHeartbeats 4000000 in
set_option maxRecDepth 100000 in
theorem c_RD_expects (l : Launch) (D : va_G) (G : GP) (S : CS) (sz : Nat) (p1 : Int32) (N : Nat) (hI : IC N S) : Met l y_RD_expects ws_RD_expects ({ frames := 0, cells := 0, slots := 0, locals := 0 }) (va_Pc [.ref (aA G 2), .int p1] (cPre D G S sz)) (va_Qi (fun (r : Int32) (S' : CS) => (r, S') = f_RD_expects S p1 ∧ IC N S' ∧ bl r) (wB D G (va_A (wC G S) sz)) (va_A (wC G S) sz)) 0 0 (va_A (wC G S) sz) := by
  refine Met.ofW (cc := b_RD_expects) (maxL := 2) (ret := (some .boolean)) (by decide) rfl ?_
  intro p e s m args below meth c s₁ B hml hv
  obtain ⟨rfl, hsz, hP, hK, hD0, hN⟩ := hv
  have hx := B.exec
  have hb := B.bytes
  have hr := B.returns
  have hts := atoms_spec (ws := ws_RD_expects) B.pre
  have hown : s.vm.findClass R_RD = some m.cls := findClass_of_methodNamed B.named
  have hlocks := B.notSynchronized
  subst hsz
  have hD := hD0.self (sz := s.heap.size)
  generalize hAe : va_A (wC G S) s.heap.size = A at hD ⊢
  have hA : ∀ q : Nat, s.heap.size ≤ q → A q := fun q h => by rw [← hAe]; exact Or.inr h
  have hS : va_S A s.heap s.heap [] := va_S.rf
  have hl := lv_entry ([.ref (aA G 2), .int p1]) (n := 2) (Nat.le_of_ble_eq_true rfl)
  rw [lg_entry_eq]
  generalize (lg_sl ([.ref (aA G 2), .int p1]) ++ List.replicate (2 - (lg_sl ([.ref (aA G 2), .int p1])).length) Slot.unset).toArray = ls at hl ⊢
  have hl : lv_has ls 2 [(0, .ref (aA G 2)), (1, .int p1)] := hl
  refine lv_aload_n hx hb d_RD_expects_0 rfl (lv_at hl 0 rfl) ?_
  refine lv_iload_n hx hb d_RD_expects_1 rfl (lv_at hl 1 rfl) ?_
  refine va_putE (D := D) (ci := 2) (v := .int p1) (ty := .int) (C := R_RD) (T := T_RD) (N := 8) hx hb hts (fun w h => List.mem_cons_of_mem _ (in_RD w h)) t_RD t_RD_ok n_RD hown hK hP hD hS 2 (w_2 G S) rfl 2 (by decide) (hts _ (List.mem_cons_of_mem _ kw50)) (fun _ h9 => h9) rfl (by decide +kernel) rfl rfl (Nat.le_of_ble_eq_true rfl) (wst_2_2 G S p1) d_RD_expects_2 (fun H locs hP hD hS => ?_)
  obtain ⟨S2, eS2⟩ : ∃ y : CS, y = stR S 2 2 p1 := ⟨_, rfl⟩
  rw [← eS2] at hP hD
  have hI : IC N S2 := by rw [eS2]; exact IC_R hI _ _ _ (by decide)
  refine lv_iconst (v := 1) hx hb d_RD_expects_5 (by decide) ?_
  exact W.zret (v := 1) hx hb hr (bl_nar (Or.inr rfl)) (fun t ht hW => ⟨⟨1, S2, rfl, ⟨by subst eS2; simp only [f_RD_expects], hI, (Or.inr rfl)⟩, by rw [ht]; exact hP, hD⟩, hS.F ht⟩) hS.2.2 d_RD_expects_6
set_option maxHeartbeats 4000000 in
set_option maxRecDepth 100000 in
theorem c_RD_begins (l : Launch) (D : va_G) (G : GP) (S : CS) (sz : Nat) (p1 : Int32) (p2 : Int32) (N : Nat) (hI : IC N S) : Met l y_RD_begins ws_RD_begins ({ frames := 1, cells := 0, slots := 0, locals := 21 }) (va_Pc [.ref (aA G 2), .int p1, .int p2] (cPre D G S sz)) (va_Qi (fun (r : Int32) (S' : CS) => (r, S') = f_RD_begins S p1 p2 ∧ IC N S' ∧ bl r) (wB D G (va_A (wC G S) sz)) (va_A (wC G S) sz)) 0 0 (va_A (wC G S) sz) := by
  refine Met.ofW (cc := b_RD_begins) (maxL := 3) (ret := (some .boolean)) (by decide) rfl ?_
  intro p e s m args below meth c s₁ B hml hv
  obtain ⟨rfl, hsz, hP, hK, hD0, hN⟩ := hv
  have hx := B.exec
  have hb := B.bytes
  have hr := B.returns
  have hts := atoms_spec (ws := ws_RD_begins) B.pre
  have hown : s.vm.findClass R_RD = some m.cls := findClass_of_methodNamed B.named
  have hlocks := B.notSynchronized
  subst hsz
  have hD := hD0.self (sz := s.heap.size)
  generalize hAe : va_A (wC G S) s.heap.size = A at hD ⊢
  have hA : ∀ q : Nat, s.heap.size ≤ q → A q := fun q h => by rw [← hAe]; exact Or.inr h
  have hS : va_S A s.heap s.heap [] := va_S.rf
  have hl := lv_entry ([.ref (aA G 2), .int p1, .int p2]) (n := 3) (Nat.le_of_ble_eq_true rfl)
  rw [lg_entry_eq]
  generalize (lg_sl ([.ref (aA G 2), .int p1, .int p2]) ++ List.replicate (3 - (lg_sl ([.ref (aA G 2), .int p1, .int p2])).length) Slot.unset).toArray = ls at hl ⊢
  have hl : lv_has ls 3 [(0, .ref (aA G 2)), (1, .int p1), (2, .int p2)] := hl
  refine lv_aload_n hx hb d_RD_begins_0 rfl (lv_at hl 0 rfl) ?_
  refine lv_iload_n hx hb d_RD_begins_1 rfl (lv_at hl 1 rfl) ?_
  refine va_putE (D := D) (ci := 2) (v := .int p1) (ty := .int) (C := R_RD) (T := T_RD) (N := 8) hx hb hts (fun w h => List.mem_cons_of_mem _ (in_RD w h)) t_RD t_RD_ok n_RD hown hK hP hD hS 2 (w_2 G S) rfl 3 (by decide) (hts _ (List.mem_cons_of_mem _ kw51)) (fun _ h9 => h9) rfl (by decide +kernel) rfl rfl (Nat.le_of_ble_eq_true rfl) (wst_2_3 G S p1) d_RD_begins_2 (fun H locs hP hD hS => ?_)
  obtain ⟨S2, eS2⟩ : ∃ y : CS, y = stR S 2 3 p1 := ⟨_, rfl⟩
  rw [← eS2] at hP hD
  have hI : IC N S2 := by rw [eS2]; exact IC_R hI _ _ _ (by decide)
  refine lv_aload_n hx hb d_RD_begins_5 rfl (lv_at hl 0 rfl) ?_
  refine lv_iload_n hx hb d_RD_begins_6 rfl (lv_at hl 2 rfl) ?_
  refine cq_i (va_runV (As := [.int p2]) (rest := []) ⟨hx, hb, hml, hown, hts⟩ (c_RD_expects l D G S2 _ p2 N hI) (cwV 1 hts (gV kw179 kw180 kw628 kw3 kw181) rfl rfl rfl (by decide +kernel) ⟨by show (0 : Nat) + 1 ≤ 1; omega, by show 8 + (2 + 11) + 0 ≤ 21; omega⟩) ⟨blindC, va_recv (ci := 2) (q0 := 2) hK hP rfl (w_2 G S2), fun U hU hW => ⟨rfl, cPre_of hP hK hD hN hU hW⟩⟩ rfl rfl hl.1 rfl (lv_room (Nat.le_of_ble_eq_true rfl)) d_RD_begins_7 ⟨Nat.zero_le _, Nat.zero_le _⟩) hD hS hA (fun x7 S7 H locs hw hP hD hS => ?_)
  obtain ⟨hw, hI, bx7⟩ := hw
  have ex7 : x7 = (f_RD_expects S2 p2).1 := congrArg Prod.fst hw
  have eS7 : S7 = (f_RD_expects S2 p2).2 := congrArg Prod.snd hw
  clear hw
  exact W.zret (v := x7) hx hb hr (bl_nar bx7) (fun t ht hW => ⟨⟨x7, S7, rfl, ⟨by subst eS7; subst ex7; subst eS2; simp only [f_RD_begins], hI, bx7⟩, by rw [ht]; exact hP, hD⟩, hS.F ht⟩) hS.2.2 d_RD_begins_10
set_option maxHeartbeats 4000000 in
set_option maxRecDepth 100000 in
theorem c_RD_takesProcedure (l : Launch) (D : va_G) (G : GP) (S : CS) (sz : Nat) (k : Nat) (p2 : Int32) (N : Nat) (hI : IC N S) (hk : k < 3) : Met l y_RD_takesProcedure ws_RD_takesProcedure ({ frames := 2, cells := 0, slots := 0, locals := 43 }) (va_Pc [.ref (aA G 2), .ref (tA G k 0), .int p2] (cPre D G S sz)) (va_Qi (fun (r : Int32) (S' : CS) => (r, S') = f_RD_takesProcedure S k p2 ∧ IC N S' ∧ bl r) (wB D G (va_A (wC G S) sz)) (va_A (wC G S) sz)) 0 0 (va_A (wC G S) sz) := by
  refine Met.ofW (cc := b_RD_takesProcedure) (maxL := 4) (ret := (some .boolean)) (by decide) rfl ?_
  intro p e s m args below meth c s₁ B hml hv
  obtain ⟨rfl, hsz, hP, hK, hD0, hN⟩ := hv
  have hx := B.exec
  have hb := B.bytes
  have hr := B.returns
  have hts := atoms_spec (ws := ws_RD_takesProcedure) B.pre
  have hown : s.vm.findClass R_RD = some m.cls := findClass_of_methodNamed B.named
  have hlocks := B.notSynchronized
  subst hsz
  have hD := hD0.self (sz := s.heap.size)
  generalize hAe : va_A (wC G S) s.heap.size = A at hD ⊢
  have hA : ∀ q : Nat, s.heap.size ≤ q → A q := fun q h => by rw [← hAe]; exact Or.inr h
  have hS : va_S A s.heap s.heap [] := va_S.rf
  have hl := lv_entry ([.ref (aA G 2), .ref (tA G k 0), .int p2]) (n := 4) (Nat.le_of_ble_eq_true rfl)
  rw [lg_entry_eq]
  generalize (lg_sl ([.ref (aA G 2), .ref (tA G k 0), .int p2]) ++ List.replicate (4 - (lg_sl ([.ref (aA G 2), .ref (tA G k 0), .int p2])).length) Slot.unset).toArray = ls at hl ⊢
  have hl : lv_has ls 4 [(0, .ref (aA G 2)), (1, .ref (tA G k 0)), (2, .int p2)] := hl
  refine lv_aload_n hx hb d_RD_takesProcedure_0 rfl (lv_at hl 1 rfl) ?_
  refine lv_iload_n hx hb d_RD_takesProcedure_1 rfl (lv_at hl 2 rfl) ?_
  refine vp_callSi (W.runV (As := [.int p2]) (rest := []) ⟨hx, hb, hml, hown, hts⟩ (c_MT_signAt l D G S k p2 N hI hk) (cwV 1 hts (gV kw159 kw160 kw161 kw2 kw162) rfl rfl rfl (by decide +kernel) ⟨by show (0 : Nat) + 1 ≤ 2; omega, by show 8 + (2 + 11) + 0 ≤ 43; omega⟩) ⟨blindR, va_recv (ci := 1) (q0 := 13 + 7 * k) hK hP rfl (wt_0 G S hk), fun U hU hW => ⟨rfl, rPre_of hP hK hN hU hW⟩⟩ rfl rfl hl.1 rfl (lv_room (Nat.le_of_ble_eq_true rfl)) d_RD_takesProcedure_2 ⟨Nat.zero_le _, Nat.zero_le _⟩) (fun x2 ex2 => ?_)
  refine lv_istore_n (lv' := [(3, .int x2), (0, .ref (aA G 2)), (1, .ref (tA G k 0)), (2, .int p2)]) hx hb d_RD_takesProcedure_5 rfl hl (by decide) rfl (fun ls hl => ?_)
  refine lv_iload_n hx hb d_RD_takesProcedure_6 rfl (lv_at hl 0 rfl) ?_
  refine vp_callSi (va_runSN (As := [.int x2]) (rest := []) ⟨hx, hb, hml, hown, hts⟩ (c_GS_isLetter l x2) ⟨va_cnB 1 hts (gW kw167) rfl rfl rfl (hN.1 (R_RD, 72, y_GS_isLetter, "GateStack") (by decide +kernel)) (hts _ (List.mem_cons_of_mem _ kw1)) (by decide +kernel) ⟨by show (0 : Nat) + 1 ≤ 2; omega, by show 8 + (1 + 11) + 0 ≤ 43; omega⟩, (hts _ (List.mem_cons_of_mem _ kw166)), trivial⟩ ⟨blindP, fun U hU hW => ⟨rfl, NW_warm hW hN⟩⟩ rfl rfl hl.1 rfl (lv_room (Nat.le_of_ble_eq_true rfl)) d_RD_takesProcedure_7 ⟨Nat.zero_le _, Nat.zero_le _⟩).run (fun x7 ex7 => ?_)
  obtain ⟨ex7, bx7⟩ := ex7
  refine lv_if_ne (tgt := 15) hx hb d_RD_takesProcedure_10 (by decide) (fun c_10 => ?_) (fun c_10 => ?_)
  · refine lv_aload_n hx hb d_RD_takesProcedure_15 rfl (lv_at hl 1 rfl) ?_
    refine lv_iload_n hx hb d_RD_takesProcedure_16 rfl (lv_at hl 0 rfl) ?_
    refine lv_bipush (v := 65) hx hb d_RD_takesProcedure_17 (by decide) ?_
    refine lv_isub hx hb d_RD_takesProcedure_19 ?_
    refine lv_topi (fun x19 ex19 => ?_)
    refine va_putE (D := D) (ci := 2) (v := .int x19) (ty := .int) (C := R_RD) (T := T_RD) (N := 8) hx hb hts (fun w h => List.mem_cons_of_mem _ (in_RD w h)) t_RD t_RD_ok n_RD hown hK hP hD hS 2 (w_2 G S) rfl 6 (by decide) (hts _ (List.mem_cons_of_mem _ kw54)) (fun _ h9 => h9) rfl (by decide +kernel) rfl rfl (Nat.le_of_ble_eq_true rfl) (wst_2_6 G S x19) d_RD_takesProcedure_20 (fun H locs hP hD hS => ?_)
    obtain ⟨S20, eS20⟩ : ∃ y : CS, y = stR S 2 6 x19 := ⟨_, rfl⟩
    rw [← eS20] at hP hD
    have hI : IC N S20 := by rw [eS20]; exact IC_R hI _ _ _ (by decide)
    refine lv_aload_n hx hb d_RD_takesProcedure_23 rfl (lv_at hl 1 rfl) ?_
    refine lv_iconst (v := 0) hx hb d_RD_takesProcedure_24 (by decide) ?_
    refine va_putE (D := D) (ci := 2) (v := .int 0) (ty := .int) (C := R_RD) (T := T_RD) (N := 8) hx hb hts (fun w h => List.mem_cons_of_mem _ (in_RD w h)) t_RD t_RD_ok n_RD hown hK hP hD hS 2 (w_2 G S20) rfl 7 (by decide) (hts _ (List.mem_cons_of_mem _ kw55)) (fun _ h9 => h9) rfl (by decide +kernel) rfl rfl (Nat.le_of_ble_eq_true rfl) (wst_2_7 G S20 0) d_RD_takesProcedure_25 (fun H locs hP hD hS => ?_)
    obtain ⟨S25, eS25⟩ : ∃ y : CS, y = stR S20 2 7 0 := ⟨_, rfl⟩
    rw [← eS25] at hP hD
    have hI : IC N S25 := by rw [eS25]; exact IC_R hI _ _ _ (by decide)
    refine lv_aload_n hx hb d_RD_takesProcedure_28 rfl (lv_at hl 2 rfl) ?_
    refine lv_aload_n hx hb d_RD_takesProcedure_29 rfl (lv_at hl 1 rfl) ?_
    refine va_get (D := D) (ci := 2) (v := .int (S25.2 2 6)) (C := R_RD) (T := T_RD) (N := 8) hx hb hts (fun w h => List.mem_cons_of_mem _ (in_RD w h)) hown hK hP 2 (w_2 G S25) rfl 6 (by decide) (hts _ (List.mem_cons_of_mem _ kw54)) (fun _ h9 => h9) rfl d_RD_takesProcedure_30 ?_
    refine lv_iload_n hx hb d_RD_takesProcedure_33 rfl (lv_at hl 3 rfl) ?_
    refine cq_v (va_runV (As := [.int (S25.2 2 6), .int p2]) (rest := []) ⟨hx, hb, hml, hown, hts⟩ (c_MT_addProcedure l D G S25 _ k (S25.2 2 6) p2 N hI hk) (cwV 2 hts (gV kw168 kw169 kw170 kw2 kw171) rfl rfl rfl (by decide +kernel) ⟨by show (1 : Nat) + 1 ≤ 2; omega, by show 8 + (3 + 11) + 21 ≤ 43; omega⟩) ⟨blindC, va_recv (ci := 1) (q0 := 13 + 7 * k) hK hP rfl (wt_0 G S25 hk), fun U hU hW => ⟨rfl, cPre_of hP hK hD hN hU hW⟩⟩ rfl rfl hl.1 rfl (lv_room (Nat.le_of_ble_eq_true rfl)) d_RD_takesProcedure_34 ⟨Nat.zero_le _, Nat.zero_le _⟩) hD hS hA (fun S34 H locs hw hP hD hS => ?_)
    obtain ⟨eS34, hI⟩ := hw
    refine lv_aload_n hx hb d_RD_takesProcedure_37 rfl (lv_at hl 1 rfl) ?_
    refine lv_iload_n hx hb d_RD_takesProcedure_38 rfl (lv_at hl 3 rfl) ?_
    refine lv_iconst (v := 1) hx hb d_RD_takesProcedure_39 (by decide) ?_
    refine cq_i (va_runV (As := [.int p2, .int 1]) (rest := []) ⟨hx, hb, hml, hown, hts⟩ (c_RD_begins l D G S34 _ p2 1 N hI) (cwV 2 hts (gV kw176 kw177 kw627 kw3 kw178) rfl rfl rfl (by decide +kernel) ⟨by show (1 : Nat) + 1 ≤ 2; omega, by show 8 + (3 + 11) + 21 ≤ 43; omega⟩) ⟨blindC, va_recv (ci := 2) (q0 := 2) hK hP rfl (w_2 G S34), fun U hU hW => ⟨rfl, cPre_of hP hK hD hN hU hW⟩⟩ rfl rfl hl.1 rfl (lv_room (Nat.le_of_ble_eq_true rfl)) d_RD_takesProcedure_40 ⟨Nat.zero_le _, Nat.zero_le _⟩) hD hS hA (fun x40 S40 H locs hw hP hD hS => ?_)
    obtain ⟨hw, hI, bx40⟩ := hw
    have ex40 : x40 = (f_RD_begins S34 p2 1).1 := congrArg Prod.fst hw
    have eS40 : S40 = (f_RD_begins S34 p2 1).2 := congrArg Prod.snd hw
    clear hw
    exact W.zret (v := x40) hx hb hr (bl_nar bx40) (fun t ht hW => ⟨⟨x40, S40, rfl, ⟨by subst eS40; subst ex40; subst eS34; subst eS25; subst eS20; subst ex19; subst ex7; subst ex2; simp only [f_RD_takesProcedure, if_neg c_10], hI, bx40⟩, by rw [ht]; exact hP, hD⟩, hS.F ht⟩) hS.2.2 d_RD_takesProcedure_43
  · refine lv_iconst (v := 0) hx hb d_RD_takesProcedure_13 (by decide) ?_
    exact W.zret (v := 0) hx hb hr (bl_nar (Or.inl rfl)) (fun t ht hW => ⟨⟨0, S, rfl, ⟨by subst ex7; subst ex2; simp only [f_RD_takesProcedure, if_pos c_10], hI, (Or.inl rfl)⟩, by rw [ht]; exact hP, hD⟩, hS.F ht⟩) hS.2.2 d_RD_takesProcedure_14
set_option maxHeartbeats 4000000 in
set_option maxRecDepth 100000 in
theorem c_RD_opens (l : Launch) (D : va_G) (G : GP) (S : CS) (sz : Nat) (p1 : Int32) (p2 : Int32) (N : Nat) (hI : IC N S) : Met l y_RD_opens ws_RD_opens ({ frames := 1, cells := 0, slots := 0, locals := 21 }) (va_Pc [.ref (aA G 2), .int p1, .int p2] (cPre D G S sz)) (va_Qi (fun (r : Int32) (S' : CS) => (r, S') = f_RD_opens S p1 p2 ∧ IC N S' ∧ bl r) (wB D G (va_A (wC G S) sz)) (va_A (wC G S) sz)) 0 0 (va_A (wC G S) sz) := by
  refine Met.ofW (cc := b_RD_opens) (maxL := 3) (ret := (some .boolean)) (by decide) rfl ?_
  intro p e s m args below meth c s₁ B hml hv
  obtain ⟨rfl, hsz, hP, hK, hD0, hN⟩ := hv
  have hx := B.exec
  have hb := B.bytes
  have hr := B.returns
  have hts := atoms_spec (ws := ws_RD_opens) B.pre
  have hown : s.vm.findClass R_RD = some m.cls := findClass_of_methodNamed B.named
  have hlocks := B.notSynchronized
  subst hsz
  have hD := hD0.self (sz := s.heap.size)
  generalize hAe : va_A (wC G S) s.heap.size = A at hD ⊢
  have hA : ∀ q : Nat, s.heap.size ≤ q → A q := fun q h => by rw [← hAe]; exact Or.inr h
  have hS : va_S A s.heap s.heap [] := va_S.rf
  have hl := lv_entry ([.ref (aA G 2), .int p1, .int p2]) (n := 3) (Nat.le_of_ble_eq_true rfl)
  rw [lg_entry_eq]
  generalize (lg_sl ([.ref (aA G 2), .int p1, .int p2]) ++ List.replicate (3 - (lg_sl ([.ref (aA G 2), .int p1, .int p2])).length) Slot.unset).toArray = ls at hl ⊢
  have hl : lv_has ls 3 [(0, .ref (aA G 2)), (1, .int p1), (2, .int p2)] := hl
  have hI0 := hI
  refine lv_aload_n hx hb d_RD_opens_0 rfl (lv_at hl 0 rfl) ?_
  refine va_get (D := D) (ci := 2) (v := .int (S.2 2 1)) (C := R_RD) (T := T_RD) (N := 8) hx hb hts (fun w h => List.mem_cons_of_mem _ (in_RD w h)) hown hK hP 2 (w_2 G S) rfl 1 (by decide) (hts _ (List.mem_cons_of_mem _ kw49)) (fun _ h9 => h9) rfl d_RD_opens_1 ?_
  refine lv_bipush (v := 6) hx hb d_RD_opens_4 (by decide) ?_
  refine lv_icmp_lt (tgt := 11) hx hb d_RD_opens_6 (by decide) (fun c_6 => ?_) (fun c_6 => ?_)
  · refine lv_aload_n hx hb d_RD_opens_11 rfl (lv_at hl 0 rfl) ?_
    refine va_get (D := D) (ci := 2) (v := .ref (aA G 3)) (C := R_RD) (T := T_RD) (N := 8) hx hb hts (fun w h => List.mem_cons_of_mem _ (in_RD w h)) hown hK hP 2 (w_2 G S) rfl 0 (by decide) (hts _ (List.mem_cons_of_mem _ kw48)) (fun _ h9 => h9) rfl d_RD_opens_12 ?_
    refine lv_aload_n hx hb d_RD_opens_15 rfl (lv_at hl 0 rfl) ?_
    refine va_get (D := D) (ci := 2) (v := .int (S.2 2 1)) (C := R_RD) (T := T_RD) (N := 8) hx hb hts (fun w h => List.mem_cons_of_mem _ (in_RD w h)) hown hK hP 2 (w_2 G S) rfl 1 (by decide) (hts _ (List.mem_cons_of_mem _ kw49)) (fun _ h9 => h9) rfl d_RD_opens_16 ?_
    refine lv_iload_n hx hb d_RD_opens_19 rfl (lv_at hl 1 rfl) ?_
    refine va_iastE (D := D) hx hb hK hP hD hS 3 0 (w_3 G S) rfl (rp_in hI (i_lt 6 rfl c_6)) (wsta_3 G S (S.2 2 1).toNatClampNeg p1) d_RD_opens_20 (fun H locs hP hD hS => ?_)
    obtain ⟨S20, eS20⟩ : ∃ y : CS, y = stR S 3 (S.2 2 1).toNatClampNeg p1 := ⟨_, rfl⟩
    rw [← eS20] at hP hD
    have hI : IC N S20 := by rw [eS20]; exact IC_A hI _ _ _ (by decide)
    refine lv_aload_n hx hb d_RD_opens_21 rfl (lv_at hl 0 rfl) ?_
    refine lv_dup hx hb d_RD_opens_22 rfl ?_
    refine va_get (D := D) (ci := 2) (v := .int (S20.2 2 1)) (C := R_RD) (T := T_RD) (N := 8) hx hb hts (fun w h => List.mem_cons_of_mem _ (in_RD w h)) hown hK hP 2 (w_2 G S20) rfl 1 (by decide) (hts _ (List.mem_cons_of_mem _ kw49)) (fun _ h9 => h9) rfl d_RD_opens_23 ?_
    refine lv_iconst (v := 1) hx hb d_RD_opens_26 (by decide) ?_
    refine lv_iadd hx hb d_RD_opens_27 ?_
    refine lv_topi (fun x27 ex27 => ?_)
    refine va_putE (D := D) (ci := 2) (v := .int x27) (ty := .int) (C := R_RD) (T := T_RD) (N := 8) hx hb hts (fun w h => List.mem_cons_of_mem _ (in_RD w h)) t_RD t_RD_ok n_RD hown hK hP hD hS 2 (w_2 G S20) rfl 1 (by decide) (hts _ (List.mem_cons_of_mem _ kw49)) (fun _ h9 => h9) rfl (by decide +kernel) rfl rfl (Nat.le_of_ble_eq_true rfl) (wst_2_1 G S20 x27) d_RD_opens_28 (fun H locs hP hD hS => ?_)
    obtain ⟨S28, eS28⟩ : ∃ y : CS, y = stR S20 2 1 x27 := ⟨_, rfl⟩
    rw [← eS28] at hP hD
    have hI : IC N S28 := by rw [eS28]; exact (have q := rd_p hI0 (i_lt 6 rfl c_6); IC_rd hI _ (by rw [ex27, eS20]; exact q.1) (by rw [ex27, eS20]; exact q.2))
    refine lv_aload_n hx hb d_RD_opens_31 rfl (lv_at hl 0 rfl) ?_
    refine lv_iload_n hx hb d_RD_opens_32 rfl (lv_at hl 2 rfl) ?_
    refine cq_i (va_runV (As := [.int p2]) (rest := []) ⟨hx, hb, hml, hown, hts⟩ (c_RD_expects l D G S28 _ p2 N hI) (cwV 1 hts (gV kw179 kw180 kw628 kw3 kw181) rfl rfl rfl (by decide +kernel) ⟨by show (0 : Nat) + 1 ≤ 1; omega, by show 8 + (2 + 11) + 0 ≤ 21; omega⟩) ⟨blindC, va_recv (ci := 2) (q0 := 2) hK hP rfl (w_2 G S28), fun U hU hW => ⟨rfl, cPre_of hP hK hD hN hU hW⟩⟩ rfl rfl hl.1 rfl (lv_room (Nat.le_of_ble_eq_true rfl)) d_RD_opens_33 ⟨Nat.zero_le _, Nat.zero_le _⟩) hD hS hA (fun x33 S33 H locs hw hP hD hS => ?_)
    obtain ⟨hw, hI, bx33⟩ := hw
    have ex33 : x33 = (f_RD_expects S28 p2).1 := congrArg Prod.fst hw
    have eS33 : S33 = (f_RD_expects S28 p2).2 := congrArg Prod.snd hw
    clear hw
    exact W.zret (v := x33) hx hb hr (bl_nar bx33) (fun t ht hW => ⟨⟨x33, S33, rfl, ⟨by subst eS33; subst ex33; subst eS28; subst ex27; subst eS20; simp only [f_RD_opens, if_pos c_6], hI, bx33⟩, by rw [ht]; exact hP, hD⟩, hS.F ht⟩) hS.2.2 d_RD_opens_36
  · refine lv_iconst (v := 0) hx hb d_RD_opens_9 (by decide) ?_
    exact W.zret (v := 0) hx hb hr (bl_nar (Or.inl rfl)) (fun t ht hW => ⟨⟨0, S, rfl, ⟨by simp only [f_RD_opens, if_neg c_6], hI, (Or.inl rfl)⟩, by rw [ht]; exact hP, hD⟩, hS.F ht⟩) hS.2.2 d_RD_opens_10
set_option maxHeartbeats 4000000 in
set_option maxRecDepth 100000 in
theorem c_RD_closesBlock (l : Launch) (D : va_G) (G : GP) (S : CS) (sz : Nat) (k : Nat) (p2 : Int32) (N : Nat) (hI : IC N S) (hk : k < 3) : Met l y_RD_closesBlock ws_RD_closesBlock ({ frames := 2, cells := 0, slots := 0, locals := 43 }) (va_Pc [.ref (aA G 2), .ref (tA G k 0), .int p2] (cPre D G S sz)) (va_Qi (fun (r : Int32) (S' : CS) => (r, S') = f_RD_closesBlock S k p2 ∧ IC N S' ∧ bl r) (wB D G (va_A (wC G S) sz)) (va_A (wC G S) sz)) 0 0 (va_A (wC G S) sz) := by
  refine Met.ofW (cc := b_RD_closesBlock) (maxL := 5) (ret := (some .boolean)) (by decide) rfl ?_
  intro p e s m args below meth c s₁ B hml hv
  obtain ⟨rfl, hsz, hP, hK, hD0, hN⟩ := hv
  have hx := B.exec
  have hb := B.bytes
  have hr := B.returns
  have hts := atoms_spec (ws := ws_RD_closesBlock) B.pre
  have hown : s.vm.findClass R_RD = some m.cls := findClass_of_methodNamed B.named
  have hlocks := B.notSynchronized
  subst hsz
  have hD := hD0.self (sz := s.heap.size)
  generalize hAe : va_A (wC G S) s.heap.size = A at hD ⊢
  have hA : ∀ q : Nat, s.heap.size ≤ q → A q := fun q h => by rw [← hAe]; exact Or.inr h
  have hS : va_S A s.heap s.heap [] := va_S.rf
  have hl := lv_entry ([.ref (aA G 2), .ref (tA G k 0), .int p2]) (n := 5) (Nat.le_of_ble_eq_true rfl)
  rw [lg_entry_eq]
  generalize (lg_sl ([.ref (aA G 2), .ref (tA G k 0), .int p2]) ++ List.replicate (5 - (lg_sl ([.ref (aA G 2), .ref (tA G k 0), .int p2])).length) Slot.unset).toArray = ls at hl ⊢
  have hl : lv_has ls 5 [(0, .ref (aA G 2)), (1, .ref (tA G k 0)), (2, .int p2)] := hl
  have hI0 := hI
  refine lv_aload_n hx hb d_RD_closesBlock_0 rfl (lv_at hl 0 rfl) ?_
  refine va_get (D := D) (ci := 2) (v := .int (S.2 2 1)) (C := R_RD) (T := T_RD) (N := 8) hx hb hts (fun w h => List.mem_cons_of_mem _ (in_RD w h)) hown hK hP 2 (w_2 G S) rfl 1 (by decide) (hts _ (List.mem_cons_of_mem _ kw49)) (fun _ h9 => h9) rfl d_RD_closesBlock_1 ?_
  refine lv_iconst (v := 1) hx hb d_RD_closesBlock_4 (by decide) ?_
  refine lv_icmp_ge (tgt := 10) hx hb d_RD_closesBlock_5 (by decide) (fun c_5 => ?_) (fun c_5 => ?_)
  · refine lv_aload_n hx hb d_RD_closesBlock_10 rfl (lv_at hl 0 rfl) ?_
    refine lv_dup hx hb d_RD_closesBlock_11 rfl ?_
    refine va_get (D := D) (ci := 2) (v := .int (S.2 2 1)) (C := R_RD) (T := T_RD) (N := 8) hx hb hts (fun w h => List.mem_cons_of_mem _ (in_RD w h)) hown hK hP 2 (w_2 G S) rfl 1 (by decide) (hts _ (List.mem_cons_of_mem _ kw49)) (fun _ h9 => h9) rfl d_RD_closesBlock_12 ?_
    refine lv_iconst (v := 1) hx hb d_RD_closesBlock_15 (by decide) ?_
    refine lv_isub hx hb d_RD_closesBlock_16 ?_
    refine lv_topi (fun x16 ex16 => ?_)
    refine va_putE (D := D) (ci := 2) (v := .int x16) (ty := .int) (C := R_RD) (T := T_RD) (N := 8) hx hb hts (fun w h => List.mem_cons_of_mem _ (in_RD w h)) t_RD t_RD_ok n_RD hown hK hP hD hS 2 (w_2 G S) rfl 1 (by decide) (hts _ (List.mem_cons_of_mem _ kw49)) (fun _ h9 => h9) rfl (by decide +kernel) rfl rfl (Nat.le_of_ble_eq_true rfl) (wst_2_1 G S x16) d_RD_closesBlock_17 (fun H locs hP hD hS => ?_)
    obtain ⟨S17, eS17⟩ : ∃ y : CS, y = stR S 2 1 x16 := ⟨_, rfl⟩
    rw [← eS17] at hP hD
    have hI : IC N S17 := by rw [eS17]; exact (have q := rd_m hI0 (i_le 1 rfl c_5); IC_rd hI _ (by rw [ex16]; exact q.1) (by rw [ex16]; exact Int.le_of_lt q.2))
    refine lv_aload_n hx hb d_RD_closesBlock_20 rfl (lv_at hl 0 rfl) ?_
    refine va_get (D := D) (ci := 2) (v := .ref (aA G 3)) (C := R_RD) (T := T_RD) (N := 8) hx hb hts (fun w h => List.mem_cons_of_mem _ (in_RD w h)) hown hK hP 2 (w_2 G S17) rfl 0 (by decide) (hts _ (List.mem_cons_of_mem _ kw48)) (fun _ h9 => h9) rfl d_RD_closesBlock_21 ?_
    refine lv_aload_n hx hb d_RD_closesBlock_24 rfl (lv_at hl 0 rfl) ?_
    refine va_get (D := D) (ci := 2) (v := .int (S17.2 2 1)) (C := R_RD) (T := T_RD) (N := 8) hx hb hts (fun w h => List.mem_cons_of_mem _ (in_RD w h)) hown hK hP 2 (w_2 G S17) rfl 1 (by decide) (hts _ (List.mem_cons_of_mem _ kw49)) (fun _ h9 => h9) rfl d_RD_closesBlock_25 ?_
    refine va_iald (D := D) hx hb hK hP 3 0 (w_3 G S17) rfl (by rw [eS17]; show vp_in x16 6; rw [ex16]; exact rm_in hI0 (i_le 1 rfl c_5)) d_RD_closesBlock_28 ?_
    refine lv_topi (fun x28 ex28 => ?_)
    refine lv_istore_n (lv' := [(3, .int x28), (0, .ref (aA G 2)), (1, .ref (tA G k 0)), (2, .int p2)]) hx hb d_RD_closesBlock_29 rfl hl (by decide) rfl (fun ls hl => ?_)
    refine lv_aload_n hx hb d_RD_closesBlock_30 rfl (lv_at hl 2 rfl) ?_
    refine lv_iload_n hx hb d_RD_closesBlock_31 rfl (lv_at hl 0 rfl) ?_
    refine lv_iload_n hx hb d_RD_closesBlock_32 rfl (lv_at hl 3 rfl) ?_
    refine cq_v (va_runV (As := [.int x28, .int p2]) (rest := []) ⟨hx, hb, hml, hown, hts⟩ (c_MT_addBlock l D G S17 _ k x28 p2 N hI hk) (cwV 2 hts (gV kw191 kw192 kw193 kw2 kw194) rfl rfl rfl (by decide +kernel) ⟨by show (1 : Nat) + 1 ≤ 2; omega, by show 8 + (3 + 11) + 21 ≤ 43; omega⟩) ⟨blindC, va_recv (ci := 1) (q0 := 13 + 7 * k) hK hP rfl (wt_0 G S17 hk), fun U hU hW => ⟨rfl, cPre_of hP hK hD hN hU hW⟩⟩ rfl rfl hl.1 rfl (lv_room (Nat.le_of_ble_eq_true rfl)) d_RD_closesBlock_33 ⟨Nat.zero_le _, Nat.zero_le _⟩) hD hS hA (fun S33 H locs hw hP hD hS => ?_)
    obtain ⟨eS33, hI⟩ := hw
    refine lv_aload_n hx hb d_RD_closesBlock_36 rfl (lv_at hl 2 rfl) ?_
    refine lv_iload_n hx hb d_RD_closesBlock_37 rfl (lv_at hl 0 rfl) ?_
    refine vp_callSi (W.runV (As := [.int x28]) (rest := []) ⟨hx, hb, hml, hown, hts⟩ (c_MT_signAt l D G S33 k x28 N hI hk) (cwV 1 hts (gV kw159 kw160 kw161 kw2 kw162) rfl rfl rfl (by decide +kernel) ⟨by show (0 : Nat) + 1 ≤ 2; omega, by show 8 + (2 + 11) + 0 ≤ 43; omega⟩) ⟨blindR, va_recv (ci := 1) (q0 := 13 + 7 * k) hK hP rfl (wt_0 G S33 hk), fun U hU hW => ⟨rfl, rPre_of hP hK hN hU hW⟩⟩ rfl rfl hl.1 rfl (lv_room (Nat.le_of_ble_eq_true rfl)) d_RD_closesBlock_38 ⟨Nat.zero_le _, Nat.zero_le _⟩) (fun x38 ex38 => ?_)
    refine lv_istore (lv' := [(4, .int x38), (3, .int x28), (0, .ref (aA G 2)), (1, .ref (tA G k 0)), (2, .int p2)]) hx hb d_RD_closesBlock_41 hl (by decide) rfl (fun ls hl => ?_)
    refine lv_iload hx hb d_RD_closesBlock_43 (lv_at hl 0 rfl) ?_
    refine vp_callSi (va_runSN (As := [.int x38]) (rest := []) ⟨hx, hb, hml, hown, hts⟩ (c_GS_isLetter l x38) ⟨va_cnB 1 hts (gW kw167) rfl rfl rfl (hN.1 (R_RD, 72, y_GS_isLetter, "GateStack") (by decide +kernel)) (hts _ (List.mem_cons_of_mem _ kw1)) (by decide +kernel) ⟨by show (0 : Nat) + 1 ≤ 2; omega, by show 8 + (1 + 11) + 0 ≤ 43; omega⟩, (hts _ (List.mem_cons_of_mem _ kw166)), trivial⟩ ⟨blindP, fun U hU hW => ⟨rfl, NW_warm hW hN⟩⟩ rfl rfl hl.1 rfl (lv_room (Nat.le_of_ble_eq_true rfl)) d_RD_closesBlock_45 ⟨Nat.zero_le _, Nat.zero_le _⟩).run (fun x45 ex45 => ?_)
    obtain ⟨ex45, bx45⟩ := ex45
    refine lv_if_eq (tgt := 57) hx hb d_RD_closesBlock_48 (by decide) (fun c_48 => ?_) (fun c_48 => ?_)
    · refine lv_aload_n hx hb d_RD_closesBlock_57 rfl (lv_at hl 2 rfl) ?_
      refine lv_iload hx hb d_RD_closesBlock_58 (lv_at hl 0 rfl) ?_
      refine lv_bipush (v := 63) hx hb d_RD_closesBlock_60 (by decide) ?_
      refine lv_icmp_ne (tgt := 69) hx hb d_RD_closesBlock_62 (by decide) (fun c_62 => ?_) (fun c_62 => ?_)
      · refine lv_iconst (v := 2) hx hb d_RD_closesBlock_69 (by decide) ?_
        refine cq_i (va_runV (As := [.int 2]) (rest := []) ⟨hx, hb, hml, hown, hts⟩ (c_RD_expects l D G S33 _ 2 N hI) (cwV 1 hts (gV kw179 kw180 kw628 kw3 kw181) rfl rfl rfl (by decide +kernel) ⟨by show (0 : Nat) + 1 ≤ 2; omega, by show 8 + (2 + 11) + 0 ≤ 43; omega⟩) ⟨blindC, va_recv (ci := 2) (q0 := 2) hK hP rfl (w_2 G S33), fun U hU hW => ⟨rfl, cPre_of hP hK hD hN hU hW⟩⟩ rfl rfl hl.1 rfl (lv_room (Nat.le_of_ble_eq_true rfl)) d_RD_closesBlock_70 ⟨Nat.zero_le _, Nat.zero_le _⟩) hD hS hA (fun x70 S70 H locs hw hP hD hS => ?_)
        obtain ⟨hw, hI, bx70⟩ := hw
        have ex70 : x70 = (f_RD_expects S33 2).1 := congrArg Prod.fst hw
        have eS70 : S70 = (f_RD_expects S33 2).2 := congrArg Prod.snd hw
        clear hw
        exact W.zret (v := x70) hx hb hr (bl_nar bx70) (fun t ht hW => ⟨⟨x70, S70, rfl, ⟨by subst eS70; subst ex70; subst ex45; subst ex38; subst eS33; subst ex28; subst eS17; subst ex16; simp only [f_RD_closesBlock, if_pos c_5, if_pos c_48, if_neg c_62], hI, bx70⟩, by rw [ht]; exact hP, hD⟩, hS.F ht⟩) hS.2.2 d_RD_closesBlock_73
      · refine lv_iconst (v := 3) hx hb d_RD_closesBlock_65 (by decide) ?_
        refine lv_goto (tgt := 70) hx hb d_RD_closesBlock_66 (by decide) ?_
        refine cq_i (va_runV (As := [.int 3]) (rest := []) ⟨hx, hb, hml, hown, hts⟩ (c_RD_expects l D G S33 _ 3 N hI) (cwV 1 hts (gV kw179 kw180 kw628 kw3 kw181) rfl rfl rfl (by decide +kernel) ⟨by show (0 : Nat) + 1 ≤ 2; omega, by show 8 + (2 + 11) + 0 ≤ 43; omega⟩) ⟨blindC, va_recv (ci := 2) (q0 := 2) hK hP rfl (w_2 G S33), fun U hU hW => ⟨rfl, cPre_of hP hK hD hN hU hW⟩⟩ rfl rfl hl.1 rfl (lv_room (Nat.le_of_ble_eq_true rfl)) d_RD_closesBlock_70 ⟨Nat.zero_le _, Nat.zero_le _⟩) hD hS hA (fun x70 S70 H locs hw hP hD hS => ?_)
        obtain ⟨hw, hI, bx70⟩ := hw
        have ex70 : x70 = (f_RD_expects S33 3).1 := congrArg Prod.fst hw
        have eS70 : S70 = (f_RD_expects S33 3).2 := congrArg Prod.snd hw
        clear hw
        exact W.zret (v := x70) hx hb hr (bl_nar bx70) (fun t ht hW => ⟨⟨x70, S70, rfl, ⟨by subst eS70; subst ex70; subst ex45; subst ex38; subst eS33; subst ex28; subst eS17; subst ex16; simp only [f_RD_closesBlock, if_pos c_5, if_pos c_48, if_pos c_62], hI, bx70⟩, by rw [ht]; exact hP, hD⟩, hS.F ht⟩) hS.2.2 d_RD_closesBlock_73
    · refine lv_aload_n hx hb d_RD_closesBlock_51 rfl (lv_at hl 2 rfl) ?_
      refine lv_iconst (v := 0) hx hb d_RD_closesBlock_52 (by decide) ?_
      refine cq_i (va_runV (As := [.int 0]) (rest := []) ⟨hx, hb, hml, hown, hts⟩ (c_RD_expects l D G S33 _ 0 N hI) (cwV 1 hts (gV kw179 kw180 kw628 kw3 kw181) rfl rfl rfl (by decide +kernel) ⟨by show (0 : Nat) + 1 ≤ 2; omega, by show 8 + (2 + 11) + 0 ≤ 43; omega⟩) ⟨blindC, va_recv (ci := 2) (q0 := 2) hK hP rfl (w_2 G S33), fun U hU hW => ⟨rfl, cPre_of hP hK hD hN hU hW⟩⟩ rfl rfl hl.1 rfl (lv_room (Nat.le_of_ble_eq_true rfl)) d_RD_closesBlock_53 ⟨Nat.zero_le _, Nat.zero_le _⟩) hD hS hA (fun x53 S53 H locs hw hP hD hS => ?_)
      obtain ⟨hw, hI, bx53⟩ := hw
      have ex53 : x53 = (f_RD_expects S33 0).1 := congrArg Prod.fst hw
      have eS53 : S53 = (f_RD_expects S33 0).2 := congrArg Prod.snd hw
      clear hw
      exact W.zret (v := x53) hx hb hr (bl_nar bx53) (fun t ht hW => ⟨⟨x53, S53, rfl, ⟨by subst eS53; subst ex53; subst ex45; subst ex38; subst eS33; subst ex28; subst eS17; subst ex16; simp only [f_RD_closesBlock, if_pos c_5, if_neg c_48], hI, bx53⟩, by rw [ht]; exact hP, hD⟩, hS.F ht⟩) hS.2.2 d_RD_closesBlock_56
  · refine lv_iconst (v := 0) hx hb d_RD_closesBlock_8 (by decide) ?_
    exact W.zret (v := 0) hx hb hr (bl_nar (Or.inl rfl)) (fun t ht hW => ⟨⟨0, S, rfl, ⟨by simp only [f_RD_closesBlock, if_neg c_5], hI, (Or.inl rfl)⟩, by rw [ht]; exact hP, hD⟩, hS.F ht⟩) hS.2.2 d_RD_closesBlock_9
set_option maxHeartbeats 4000000 in
set_option maxRecDepth 100000 in
theorem c_RD_takesStatement (l : Launch) (D : va_G) (G : GP) (S : CS) (sz : Nat) (k : Nat) (p2 : Int32) (N : Nat) (hI : IC N S) (hk : k < 3) : Met l y_RD_takesStatement ws_RD_takesStatement ({ frames := 3, cells := 0, slots := 0, locals := 67 }) (va_Pc [.ref (aA G 2), .ref (tA G k 0), .int p2] (cPre D G S sz)) (va_Qi (fun (r : Int32) (S' : CS) => (r, S') = f_RD_takesStatement S k p2 ∧ IC N S' ∧ bl r) (wB D G (va_A (wC G S) sz)) (va_A (wC G S) sz)) 0 0 (va_A (wC G S) sz) := by
  refine Met.ofW (cc := b_RD_takesStatement) (maxL := 5) (ret := (some .boolean)) (by decide) rfl ?_
  intro p e s m args below meth c s₁ B hml hv
  obtain ⟨rfl, hsz, hP, hK, hD0, hN⟩ := hv
  have hx := B.exec
  have hb := B.bytes
  have hr := B.returns
  have hts := atoms_spec (ws := ws_RD_takesStatement) B.pre
  have hown : s.vm.findClass R_RD = some m.cls := findClass_of_methodNamed B.named
  have hlocks := B.notSynchronized
  subst hsz
  have hD := hD0.self (sz := s.heap.size)
  generalize hAe : va_A (wC G S) s.heap.size = A at hD ⊢
  have hA : ∀ q : Nat, s.heap.size ≤ q → A q := fun q h => by rw [← hAe]; exact Or.inr h
  have hS : va_S A s.heap s.heap [] := va_S.rf
  have hl := lv_entry ([.ref (aA G 2), .ref (tA G k 0), .int p2]) (n := 5) (Nat.le_of_ble_eq_true rfl)
  rw [lg_entry_eq]
  generalize (lg_sl ([.ref (aA G 2), .ref (tA G k 0), .int p2]) ++ List.replicate (5 - (lg_sl ([.ref (aA G 2), .ref (tA G k 0), .int p2])).length) Slot.unset).toArray = ls at hl ⊢
  have hl : lv_has ls 5 [(0, .ref (aA G 2)), (1, .ref (tA G k 0)), (2, .int p2)] := hl
  refine lv_aload_n hx hb d_RD_takesStatement_0 rfl (lv_at hl 1 rfl) ?_
  refine lv_iload_n hx hb d_RD_takesStatement_1 rfl (lv_at hl 2 rfl) ?_
  refine vp_callSi (W.runV (As := [.int p2]) (rest := []) ⟨hx, hb, hml, hown, hts⟩ (c_MT_signAt l D G S k p2 N hI hk) (cwV 1 hts (gV kw159 kw160 kw161 kw2 kw162) rfl rfl rfl (by decide +kernel) ⟨by show (0 : Nat) + 1 ≤ 3; omega, by show 8 + (2 + 11) + 0 ≤ 67; omega⟩) ⟨blindR, va_recv (ci := 1) (q0 := 13 + 7 * k) hK hP rfl (wt_0 G S hk), fun U hU hW => ⟨rfl, rPre_of hP hK hN hU hW⟩⟩ rfl rfl hl.1 rfl (lv_room (Nat.le_of_ble_eq_true rfl)) d_RD_takesStatement_2 ⟨Nat.zero_le _, Nat.zero_le _⟩) (fun x2 ex2 => ?_)
  refine lv_istore_n (lv' := [(3, .int x2), (0, .ref (aA G 2)), (1, .ref (tA G k 0)), (2, .int p2)]) hx hb d_RD_takesStatement_5 rfl hl (by decide) rfl (fun ls hl => ?_)
  refine lv_iload_n hx hb d_RD_takesStatement_6 rfl (lv_at hl 0 rfl) ?_
  refine lv_bipush (v := 125) hx hb d_RD_takesStatement_7 (by decide) ?_
  refine lv_icmp_ne (tgt := 19) hx hb d_RD_takesStatement_9 (by decide) (fun c_9 => ?_) (fun c_9 => ?_)
  · refine lv_iload_n hx hb d_RD_takesStatement_19 rfl (lv_at hl 0 rfl) ?_
    refine vp_callSi (W.runS (As := [.int x2]) (rest := []) ⟨hx, hb, hml, hown, hts⟩ (c_RD_behindFirstSign l x2) (cwS 1 hts (gS kw198 kw199 kw3 kw200) rfl rfl rfl (by decide +kernel) ⟨by show (1 : Nat) + 1 ≤ 3; omega, by show 8 + (1 + 11) + 20 ≤ 67; omega⟩) ⟨blindP, fun U hU hW => ⟨rfl, NW_warm hW hN⟩⟩ rfl rfl hl.1 rfl (lv_room (Nat.le_of_ble_eq_true rfl)) d_RD_takesStatement_20 ⟨Nat.zero_le _, Nat.zero_le _⟩) (fun x20 ex20 => ?_)
    refine lv_istore (lv' := [(4, .int x20), (3, .int x2), (0, .ref (aA G 2)), (1, .ref (tA G k 0)), (2, .int p2)]) hx hb d_RD_takesStatement_23 hl (by decide) rfl (fun ls hl => ?_)
    refine lv_iload hx hb d_RD_takesStatement_25 (lv_at hl 0 rfl) ?_
    refine lv_iconst (v := 2) hx hb d_RD_takesStatement_27 (by decide) ?_
    refine lv_icmp_ne (tgt := 33) hx hb d_RD_takesStatement_28 (by decide) (fun c_28 => ?_) (fun c_28 => ?_)
    · refine lv_iload hx hb d_RD_takesStatement_33 (lv_at hl 0 rfl) ?_
      refine lv_iconst (v := 5) hx hb d_RD_takesStatement_35 (by decide) ?_
      refine lv_icmp_ne (tgt := 51) hx hb d_RD_takesStatement_36 (by decide) (fun c_36 => ?_) (fun c_36 => ?_)
      · refine lv_aload_n hx hb d_RD_takesStatement_51 rfl (lv_at hl 2 rfl) ?_
        refine lv_dup hx hb d_RD_takesStatement_52 rfl ?_
        refine va_get (D := D) (ci := 2) (v := .int (S.2 2 7)) (C := R_RD) (T := T_RD) (N := 8) hx hb hts (fun w h => List.mem_cons_of_mem _ (in_RD w h)) hown hK hP 2 (w_2 G S) rfl 7 (by decide) (hts _ (List.mem_cons_of_mem _ kw55)) (fun _ h9 => h9) rfl d_RD_takesStatement_53 ?_
        refine lv_iconst (v := 1) hx hb d_RD_takesStatement_56 (by decide) ?_
        refine lv_iadd hx hb d_RD_takesStatement_57 ?_
        refine lv_topi (fun x57 ex57 => ?_)
        refine va_putE (D := D) (ci := 2) (v := .int x57) (ty := .int) (C := R_RD) (T := T_RD) (N := 8) hx hb hts (fun w h => List.mem_cons_of_mem _ (in_RD w h)) t_RD t_RD_ok n_RD hown hK hP hD hS 2 (w_2 G S) rfl 7 (by decide) (hts _ (List.mem_cons_of_mem _ kw55)) (fun _ h9 => h9) rfl (by decide +kernel) rfl rfl (Nat.le_of_ble_eq_true rfl) (wst_2_7 G S x57) d_RD_takesStatement_58 (fun H locs hP hD hS => ?_)
        obtain ⟨S58, eS58⟩ : ∃ y : CS, y = stR S 2 7 x57 := ⟨_, rfl⟩
        rw [← eS58] at hP hD
        have hI : IC N S58 := by rw [eS58]; exact IC_R hI _ _ _ (by decide)
        refine lv_aload_n hx hb d_RD_takesStatement_61 rfl (lv_at hl 3 rfl) ?_
        refine lv_iload_n hx hb d_RD_takesStatement_62 rfl (lv_at hl 4 rfl) ?_
        refine lv_aload_n hx hb d_RD_takesStatement_63 rfl (lv_at hl 2 rfl) ?_
        refine va_get (D := D) (ci := 2) (v := .int (S58.2 2 7)) (C := R_RD) (T := T_RD) (N := 8) hx hb hts (fun w h => List.mem_cons_of_mem _ (in_RD w h)) hown hK hP 2 (w_2 G S58) rfl 7 (by decide) (hts _ (List.mem_cons_of_mem _ kw55)) (fun _ h9 => h9) rfl d_RD_takesStatement_64 ?_
        refine cq_v (va_runV (As := [.int p2, .int (S58.2 2 7)]) (rest := []) ⟨hx, hb, hml, hown, hts⟩ (c_MT_addStatement l D G S58 _ k p2 (S58.2 2 7) N hI hk) (cwV 2 hts (gV kw207 kw208 kw209 kw2 kw210) rfl rfl rfl (by decide +kernel) ⟨by show (1 : Nat) + 1 ≤ 3; omega, by show 8 + (3 + 11) + 21 ≤ 67; omega⟩) ⟨blindC, va_recv (ci := 1) (q0 := 13 + 7 * k) hK hP rfl (wt_0 G S58 hk), fun U hU hW => ⟨rfl, cPre_of hP hK hD hN hU hW⟩⟩ rfl rfl hl.1 rfl (lv_room (Nat.le_of_ble_eq_true rfl)) d_RD_takesStatement_67 ⟨Nat.zero_le _, Nat.zero_le _⟩) hD hS hA (fun S67 H locs hw hP hD hS => ?_)
        obtain ⟨eS67, hI⟩ := hw
        refine lv_aload_n hx hb d_RD_takesStatement_70 rfl (lv_at hl 2 rfl) ?_
        refine lv_iload_n hx hb d_RD_takesStatement_71 rfl (lv_at hl 1 rfl) ?_
        refine lv_bipush (v := 63) hx hb d_RD_takesStatement_72 (by decide) ?_
        refine lv_icmp_eq (tgt := 83) hx hb d_RD_takesStatement_74 (by decide) (fun c_74 => ?_) (fun c_74 => ?_)
        · refine lv_bipush (v := 123) hx hb d_RD_takesStatement_83 (by decide) ?_
          refine lv_goto (tgt := 90) hx hb d_RD_takesStatement_85 (by decide) ?_
          refine va_putE (D := D) (ci := 2) (v := .int 123) (ty := .int) (C := R_RD) (T := T_RD) (N := 8) hx hb hts (fun w h => List.mem_cons_of_mem _ (in_RD w h)) t_RD t_RD_ok n_RD hown hK hP hD hS 2 (w_2 G S67) rfl 4 (by decide) (hts _ (List.mem_cons_of_mem _ kw52)) (fun _ h9 => h9) rfl (by decide +kernel) rfl rfl (Nat.le_of_ble_eq_true rfl) (wst_2_4 G S67 123) d_RD_takesStatement_90 (fun H locs hP hD hS => ?_)
          obtain ⟨S90, eS90⟩ : ∃ y : CS, y = stR S67 2 4 123 := ⟨_, rfl⟩
          rw [← eS90] at hP hD
          have hI : IC N S90 := by rw [eS90]; exact IC_R hI _ _ _ (by decide)
          refine lv_aload_n hx hb d_RD_takesStatement_93 rfl (lv_at hl 2 rfl) ?_
          refine lv_iload_n hx hb d_RD_takesStatement_94 rfl (lv_at hl 4 rfl) ?_
          refine lv_iload hx hb d_RD_takesStatement_95 (lv_at hl 0 rfl) ?_
          refine cq_i (va_runV (As := [.int p2, .int x20]) (rest := []) ⟨hx, hb, hml, hown, hts⟩ (c_RD_begins l D G S90 _ p2 x20 N hI) (cwV 2 hts (gV kw176 kw177 kw627 kw3 kw178) rfl rfl rfl (by decide +kernel) ⟨by show (1 : Nat) + 1 ≤ 3; omega, by show 8 + (3 + 11) + 21 ≤ 67; omega⟩) ⟨blindC, va_recv (ci := 2) (q0 := 2) hK hP rfl (w_2 G S90), fun U hU hW => ⟨rfl, cPre_of hP hK hD hN hU hW⟩⟩ rfl rfl hl.1 rfl (lv_room (Nat.le_of_ble_eq_true rfl)) d_RD_takesStatement_97 ⟨Nat.zero_le _, Nat.zero_le _⟩) hD hS hA (fun x97 S97 H locs hw hP hD hS => ?_)
          obtain ⟨hw, hI, bx97⟩ := hw
          have ex97 : x97 = (f_RD_begins S90 p2 x20).1 := congrArg Prod.fst hw
          have eS97 : S97 = (f_RD_begins S90 p2 x20).2 := congrArg Prod.snd hw
          clear hw
          exact W.zret (v := x97) hx hb hr (bl_nar bx97) (fun t ht hW => ⟨⟨x97, S97, rfl, ⟨by subst eS97; subst ex97; subst eS90; subst eS67; subst eS58; subst ex57; subst ex20; subst ex2; simp only [f_RD_takesStatement, if_neg c_9, if_neg c_28, if_neg c_36, if_pos c_74], hI, bx97⟩, by rw [ht]; exact hP, hD⟩, hS.F ht⟩) hS.2.2 d_RD_takesStatement_100
        · refine lv_iload_n hx hb d_RD_takesStatement_77 rfl (lv_at hl 1 rfl) ?_
          refine lv_bipush (v := 64) hx hb d_RD_takesStatement_78 (by decide) ?_
          refine lv_icmp_ne (tgt := 88) hx hb d_RD_takesStatement_80 (by decide) (fun c_80 => ?_) (fun c_80 => ?_)
          · refine lv_bipush (v := 59) hx hb d_RD_takesStatement_88 (by decide) ?_
            refine va_putE (D := D) (ci := 2) (v := .int 59) (ty := .int) (C := R_RD) (T := T_RD) (N := 8) hx hb hts (fun w h => List.mem_cons_of_mem _ (in_RD w h)) t_RD t_RD_ok n_RD hown hK hP hD hS 2 (w_2 G S67) rfl 4 (by decide) (hts _ (List.mem_cons_of_mem _ kw52)) (fun _ h9 => h9) rfl (by decide +kernel) rfl rfl (Nat.le_of_ble_eq_true rfl) (wst_2_4 G S67 59) d_RD_takesStatement_90 (fun H locs hP hD hS => ?_)
            obtain ⟨S90, eS90⟩ : ∃ y : CS, y = stR S67 2 4 59 := ⟨_, rfl⟩
            rw [← eS90] at hP hD
            have hI : IC N S90 := by rw [eS90]; exact IC_R hI _ _ _ (by decide)
            refine lv_aload_n hx hb d_RD_takesStatement_93 rfl (lv_at hl 2 rfl) ?_
            refine lv_iload_n hx hb d_RD_takesStatement_94 rfl (lv_at hl 4 rfl) ?_
            refine lv_iload hx hb d_RD_takesStatement_95 (lv_at hl 0 rfl) ?_
            refine cq_i (va_runV (As := [.int p2, .int x20]) (rest := []) ⟨hx, hb, hml, hown, hts⟩ (c_RD_begins l D G S90 _ p2 x20 N hI) (cwV 2 hts (gV kw176 kw177 kw627 kw3 kw178) rfl rfl rfl (by decide +kernel) ⟨by show (1 : Nat) + 1 ≤ 3; omega, by show 8 + (3 + 11) + 21 ≤ 67; omega⟩) ⟨blindC, va_recv (ci := 2) (q0 := 2) hK hP rfl (w_2 G S90), fun U hU hW => ⟨rfl, cPre_of hP hK hD hN hU hW⟩⟩ rfl rfl hl.1 rfl (lv_room (Nat.le_of_ble_eq_true rfl)) d_RD_takesStatement_97 ⟨Nat.zero_le _, Nat.zero_le _⟩) hD hS hA (fun x97 S97 H locs hw hP hD hS => ?_)
            obtain ⟨hw, hI, bx97⟩ := hw
            have ex97 : x97 = (f_RD_begins S90 p2 x20).1 := congrArg Prod.fst hw
            have eS97 : S97 = (f_RD_begins S90 p2 x20).2 := congrArg Prod.snd hw
            clear hw
            exact W.zret (v := x97) hx hb hr (bl_nar bx97) (fun t ht hW => ⟨⟨x97, S97, rfl, ⟨by subst eS97; subst ex97; subst eS90; subst eS67; subst eS58; subst ex57; subst ex20; subst ex2; simp only [f_RD_takesStatement, if_neg c_9, if_neg c_28, if_neg c_36, if_neg c_74, if_neg c_80], hI, bx97⟩, by rw [ht]; exact hP, hD⟩, hS.F ht⟩) hS.2.2 d_RD_takesStatement_100
          · refine lv_bipush (v := 123) hx hb d_RD_takesStatement_83 (by decide) ?_
            refine lv_goto (tgt := 90) hx hb d_RD_takesStatement_85 (by decide) ?_
            refine va_putE (D := D) (ci := 2) (v := .int 123) (ty := .int) (C := R_RD) (T := T_RD) (N := 8) hx hb hts (fun w h => List.mem_cons_of_mem _ (in_RD w h)) t_RD t_RD_ok n_RD hown hK hP hD hS 2 (w_2 G S67) rfl 4 (by decide) (hts _ (List.mem_cons_of_mem _ kw52)) (fun _ h9 => h9) rfl (by decide +kernel) rfl rfl (Nat.le_of_ble_eq_true rfl) (wst_2_4 G S67 123) d_RD_takesStatement_90 (fun H locs hP hD hS => ?_)
            obtain ⟨S90, eS90⟩ : ∃ y : CS, y = stR S67 2 4 123 := ⟨_, rfl⟩
            rw [← eS90] at hP hD
            have hI : IC N S90 := by rw [eS90]; exact IC_R hI _ _ _ (by decide)
            refine lv_aload_n hx hb d_RD_takesStatement_93 rfl (lv_at hl 2 rfl) ?_
            refine lv_iload_n hx hb d_RD_takesStatement_94 rfl (lv_at hl 4 rfl) ?_
            refine lv_iload hx hb d_RD_takesStatement_95 (lv_at hl 0 rfl) ?_
            refine cq_i (va_runV (As := [.int p2, .int x20]) (rest := []) ⟨hx, hb, hml, hown, hts⟩ (c_RD_begins l D G S90 _ p2 x20 N hI) (cwV 2 hts (gV kw176 kw177 kw627 kw3 kw178) rfl rfl rfl (by decide +kernel) ⟨by show (1 : Nat) + 1 ≤ 3; omega, by show 8 + (3 + 11) + 21 ≤ 67; omega⟩) ⟨blindC, va_recv (ci := 2) (q0 := 2) hK hP rfl (w_2 G S90), fun U hU hW => ⟨rfl, cPre_of hP hK hD hN hU hW⟩⟩ rfl rfl hl.1 rfl (lv_room (Nat.le_of_ble_eq_true rfl)) d_RD_takesStatement_97 ⟨Nat.zero_le _, Nat.zero_le _⟩) hD hS hA (fun x97 S97 H locs hw hP hD hS => ?_)
            obtain ⟨hw, hI, bx97⟩ := hw
            have ex97 : x97 = (f_RD_begins S90 p2 x20).1 := congrArg Prod.fst hw
            have eS97 : S97 = (f_RD_begins S90 p2 x20).2 := congrArg Prod.snd hw
            clear hw
            exact W.zret (v := x97) hx hb hr (bl_nar bx97) (fun t ht hW => ⟨⟨x97, S97, rfl, ⟨by subst eS97; subst ex97; subst eS90; subst eS67; subst eS58; subst ex57; subst ex20; subst ex2; simp only [f_RD_takesStatement, if_neg c_9, if_neg c_28, if_neg c_36, if_neg c_74, if_pos c_80], hI, bx97⟩, by rw [ht]; exact hP, hD⟩, hS.F ht⟩) hS.2.2 d_RD_takesStatement_100
      · refine lv_aload_n hx hb d_RD_takesStatement_39 rfl (lv_at hl 3 rfl) ?_
        refine lv_aload_n hx hb d_RD_takesStatement_40 rfl (lv_at hl 2 rfl) ?_
        refine va_get (D := D) (ci := 2) (v := .int (S.2 2 6)) (C := R_RD) (T := T_RD) (N := 8) hx hb hts (fun w h => List.mem_cons_of_mem _ (in_RD w h)) hown hK hP 2 (w_2 G S) rfl 6 (by decide) (hts _ (List.mem_cons_of_mem _ kw54)) (fun _ h9 => h9) rfl d_RD_takesStatement_41 ?_
        refine lv_iload_n hx hb d_RD_takesStatement_44 rfl (lv_at hl 1 rfl) ?_
        refine lv_bipush (v := 65) hx hb d_RD_takesStatement_45 (by decide) ?_
        refine lv_isub hx hb d_RD_takesStatement_47 ?_
        refine lv_topi (fun x47 ex47 => ?_)
        refine cq_v (va_runV (As := [.int (S.2 2 6), .int x47]) (rest := []) ⟨hx, hb, hml, hown, hts⟩ (c_MT_addCall l D G S _ k (S.2 2 6) x47 N hI hk) (cwV 2 hts (gV kw203 kw204 kw205 kw2 kw206) rfl rfl rfl (by decide +kernel) ⟨by show (1 : Nat) + 1 ≤ 3; omega, by show 8 + (3 + 11) + 20 ≤ 67; omega⟩) ⟨blindC, va_recv (ci := 1) (q0 := 13 + 7 * k) hK hP rfl (wt_0 G S hk), fun U hU hW => ⟨rfl, cPre_of hP hK hD hN hU hW⟩⟩ rfl rfl hl.1 rfl (lv_room (Nat.le_of_ble_eq_true rfl)) d_RD_takesStatement_48 ⟨Nat.zero_le _, Nat.zero_le _⟩) hD hS hA (fun S48 H locs hw hP hD hS => ?_)
        obtain ⟨eS48, hI⟩ := hw
        refine lv_aload_n hx hb d_RD_takesStatement_51 rfl (lv_at hl 2 rfl) ?_
        refine lv_dup hx hb d_RD_takesStatement_52 rfl ?_
        refine va_get (D := D) (ci := 2) (v := .int (S48.2 2 7)) (C := R_RD) (T := T_RD) (N := 8) hx hb hts (fun w h => List.mem_cons_of_mem _ (in_RD w h)) hown hK hP 2 (w_2 G S48) rfl 7 (by decide) (hts _ (List.mem_cons_of_mem _ kw55)) (fun _ h9 => h9) rfl d_RD_takesStatement_53 ?_
        refine lv_iconst (v := 1) hx hb d_RD_takesStatement_56 (by decide) ?_
        refine lv_iadd hx hb d_RD_takesStatement_57 ?_
        refine lv_topi (fun x57 ex57 => ?_)
        refine va_putE (D := D) (ci := 2) (v := .int x57) (ty := .int) (C := R_RD) (T := T_RD) (N := 8) hx hb hts (fun w h => List.mem_cons_of_mem _ (in_RD w h)) t_RD t_RD_ok n_RD hown hK hP hD hS 2 (w_2 G S48) rfl 7 (by decide) (hts _ (List.mem_cons_of_mem _ kw55)) (fun _ h9 => h9) rfl (by decide +kernel) rfl rfl (Nat.le_of_ble_eq_true rfl) (wst_2_7 G S48 x57) d_RD_takesStatement_58 (fun H locs hP hD hS => ?_)
        obtain ⟨S58, eS58⟩ : ∃ y : CS, y = stR S48 2 7 x57 := ⟨_, rfl⟩
        rw [← eS58] at hP hD
        have hI : IC N S58 := by rw [eS58]; exact IC_R hI _ _ _ (by decide)
        refine lv_aload_n hx hb d_RD_takesStatement_61 rfl (lv_at hl 3 rfl) ?_
        refine lv_iload_n hx hb d_RD_takesStatement_62 rfl (lv_at hl 4 rfl) ?_
        refine lv_aload_n hx hb d_RD_takesStatement_63 rfl (lv_at hl 2 rfl) ?_
        refine va_get (D := D) (ci := 2) (v := .int (S58.2 2 7)) (C := R_RD) (T := T_RD) (N := 8) hx hb hts (fun w h => List.mem_cons_of_mem _ (in_RD w h)) hown hK hP 2 (w_2 G S58) rfl 7 (by decide) (hts _ (List.mem_cons_of_mem _ kw55)) (fun _ h9 => h9) rfl d_RD_takesStatement_64 ?_
        refine cq_v (va_runV (As := [.int p2, .int (S58.2 2 7)]) (rest := []) ⟨hx, hb, hml, hown, hts⟩ (c_MT_addStatement l D G S58 _ k p2 (S58.2 2 7) N hI hk) (cwV 2 hts (gV kw207 kw208 kw209 kw2 kw210) rfl rfl rfl (by decide +kernel) ⟨by show (1 : Nat) + 1 ≤ 3; omega, by show 8 + (3 + 11) + 21 ≤ 67; omega⟩) ⟨blindC, va_recv (ci := 1) (q0 := 13 + 7 * k) hK hP rfl (wt_0 G S58 hk), fun U hU hW => ⟨rfl, cPre_of hP hK hD hN hU hW⟩⟩ rfl rfl hl.1 rfl (lv_room (Nat.le_of_ble_eq_true rfl)) d_RD_takesStatement_67 ⟨Nat.zero_le _, Nat.zero_le _⟩) hD hS hA (fun S67 H locs hw hP hD hS => ?_)
        obtain ⟨eS67, hI⟩ := hw
        refine lv_aload_n hx hb d_RD_takesStatement_70 rfl (lv_at hl 2 rfl) ?_
        refine lv_iload_n hx hb d_RD_takesStatement_71 rfl (lv_at hl 1 rfl) ?_
        refine lv_bipush (v := 63) hx hb d_RD_takesStatement_72 (by decide) ?_
        refine lv_icmp_eq (tgt := 83) hx hb d_RD_takesStatement_74 (by decide) (fun c_74 => ?_) (fun c_74 => ?_)
        · refine lv_bipush (v := 123) hx hb d_RD_takesStatement_83 (by decide) ?_
          refine lv_goto (tgt := 90) hx hb d_RD_takesStatement_85 (by decide) ?_
          refine va_putE (D := D) (ci := 2) (v := .int 123) (ty := .int) (C := R_RD) (T := T_RD) (N := 8) hx hb hts (fun w h => List.mem_cons_of_mem _ (in_RD w h)) t_RD t_RD_ok n_RD hown hK hP hD hS 2 (w_2 G S67) rfl 4 (by decide) (hts _ (List.mem_cons_of_mem _ kw52)) (fun _ h9 => h9) rfl (by decide +kernel) rfl rfl (Nat.le_of_ble_eq_true rfl) (wst_2_4 G S67 123) d_RD_takesStatement_90 (fun H locs hP hD hS => ?_)
          obtain ⟨S90, eS90⟩ : ∃ y : CS, y = stR S67 2 4 123 := ⟨_, rfl⟩
          rw [← eS90] at hP hD
          have hI : IC N S90 := by rw [eS90]; exact IC_R hI _ _ _ (by decide)
          refine lv_aload_n hx hb d_RD_takesStatement_93 rfl (lv_at hl 2 rfl) ?_
          refine lv_iload_n hx hb d_RD_takesStatement_94 rfl (lv_at hl 4 rfl) ?_
          refine lv_iload hx hb d_RD_takesStatement_95 (lv_at hl 0 rfl) ?_
          refine cq_i (va_runV (As := [.int p2, .int x20]) (rest := []) ⟨hx, hb, hml, hown, hts⟩ (c_RD_begins l D G S90 _ p2 x20 N hI) (cwV 2 hts (gV kw176 kw177 kw627 kw3 kw178) rfl rfl rfl (by decide +kernel) ⟨by show (1 : Nat) + 1 ≤ 3; omega, by show 8 + (3 + 11) + 21 ≤ 67; omega⟩) ⟨blindC, va_recv (ci := 2) (q0 := 2) hK hP rfl (w_2 G S90), fun U hU hW => ⟨rfl, cPre_of hP hK hD hN hU hW⟩⟩ rfl rfl hl.1 rfl (lv_room (Nat.le_of_ble_eq_true rfl)) d_RD_takesStatement_97 ⟨Nat.zero_le _, Nat.zero_le _⟩) hD hS hA (fun x97 S97 H locs hw hP hD hS => ?_)
          obtain ⟨hw, hI, bx97⟩ := hw
          have ex97 : x97 = (f_RD_begins S90 p2 x20).1 := congrArg Prod.fst hw
          have eS97 : S97 = (f_RD_begins S90 p2 x20).2 := congrArg Prod.snd hw
          clear hw
          exact W.zret (v := x97) hx hb hr (bl_nar bx97) (fun t ht hW => ⟨⟨x97, S97, rfl, ⟨by subst eS97; subst ex97; subst eS90; subst eS67; subst eS58; subst ex57; subst eS48; subst ex47; subst ex20; subst ex2; simp only [f_RD_takesStatement, if_neg c_9, if_neg c_28, if_pos c_36, if_pos c_74], hI, bx97⟩, by rw [ht]; exact hP, hD⟩, hS.F ht⟩) hS.2.2 d_RD_takesStatement_100
        · refine lv_iload_n hx hb d_RD_takesStatement_77 rfl (lv_at hl 1 rfl) ?_
          refine lv_bipush (v := 64) hx hb d_RD_takesStatement_78 (by decide) ?_
          refine lv_icmp_ne (tgt := 88) hx hb d_RD_takesStatement_80 (by decide) (fun c_80 => ?_) (fun c_80 => ?_)
          · refine lv_bipush (v := 59) hx hb d_RD_takesStatement_88 (by decide) ?_
            refine va_putE (D := D) (ci := 2) (v := .int 59) (ty := .int) (C := R_RD) (T := T_RD) (N := 8) hx hb hts (fun w h => List.mem_cons_of_mem _ (in_RD w h)) t_RD t_RD_ok n_RD hown hK hP hD hS 2 (w_2 G S67) rfl 4 (by decide) (hts _ (List.mem_cons_of_mem _ kw52)) (fun _ h9 => h9) rfl (by decide +kernel) rfl rfl (Nat.le_of_ble_eq_true rfl) (wst_2_4 G S67 59) d_RD_takesStatement_90 (fun H locs hP hD hS => ?_)
            obtain ⟨S90, eS90⟩ : ∃ y : CS, y = stR S67 2 4 59 := ⟨_, rfl⟩
            rw [← eS90] at hP hD
            have hI : IC N S90 := by rw [eS90]; exact IC_R hI _ _ _ (by decide)
            refine lv_aload_n hx hb d_RD_takesStatement_93 rfl (lv_at hl 2 rfl) ?_
            refine lv_iload_n hx hb d_RD_takesStatement_94 rfl (lv_at hl 4 rfl) ?_
            refine lv_iload hx hb d_RD_takesStatement_95 (lv_at hl 0 rfl) ?_
            refine cq_i (va_runV (As := [.int p2, .int x20]) (rest := []) ⟨hx, hb, hml, hown, hts⟩ (c_RD_begins l D G S90 _ p2 x20 N hI) (cwV 2 hts (gV kw176 kw177 kw627 kw3 kw178) rfl rfl rfl (by decide +kernel) ⟨by show (1 : Nat) + 1 ≤ 3; omega, by show 8 + (3 + 11) + 21 ≤ 67; omega⟩) ⟨blindC, va_recv (ci := 2) (q0 := 2) hK hP rfl (w_2 G S90), fun U hU hW => ⟨rfl, cPre_of hP hK hD hN hU hW⟩⟩ rfl rfl hl.1 rfl (lv_room (Nat.le_of_ble_eq_true rfl)) d_RD_takesStatement_97 ⟨Nat.zero_le _, Nat.zero_le _⟩) hD hS hA (fun x97 S97 H locs hw hP hD hS => ?_)
            obtain ⟨hw, hI, bx97⟩ := hw
            have ex97 : x97 = (f_RD_begins S90 p2 x20).1 := congrArg Prod.fst hw
            have eS97 : S97 = (f_RD_begins S90 p2 x20).2 := congrArg Prod.snd hw
            clear hw
            exact W.zret (v := x97) hx hb hr (bl_nar bx97) (fun t ht hW => ⟨⟨x97, S97, rfl, ⟨by subst eS97; subst ex97; subst eS90; subst eS67; subst eS58; subst ex57; subst eS48; subst ex47; subst ex20; subst ex2; simp only [f_RD_takesStatement, if_neg c_9, if_neg c_28, if_pos c_36, if_neg c_74, if_neg c_80], hI, bx97⟩, by rw [ht]; exact hP, hD⟩, hS.F ht⟩) hS.2.2 d_RD_takesStatement_100
          · refine lv_bipush (v := 123) hx hb d_RD_takesStatement_83 (by decide) ?_
            refine lv_goto (tgt := 90) hx hb d_RD_takesStatement_85 (by decide) ?_
            refine va_putE (D := D) (ci := 2) (v := .int 123) (ty := .int) (C := R_RD) (T := T_RD) (N := 8) hx hb hts (fun w h => List.mem_cons_of_mem _ (in_RD w h)) t_RD t_RD_ok n_RD hown hK hP hD hS 2 (w_2 G S67) rfl 4 (by decide) (hts _ (List.mem_cons_of_mem _ kw52)) (fun _ h9 => h9) rfl (by decide +kernel) rfl rfl (Nat.le_of_ble_eq_true rfl) (wst_2_4 G S67 123) d_RD_takesStatement_90 (fun H locs hP hD hS => ?_)
            obtain ⟨S90, eS90⟩ : ∃ y : CS, y = stR S67 2 4 123 := ⟨_, rfl⟩
            rw [← eS90] at hP hD
            have hI : IC N S90 := by rw [eS90]; exact IC_R hI _ _ _ (by decide)
            refine lv_aload_n hx hb d_RD_takesStatement_93 rfl (lv_at hl 2 rfl) ?_
            refine lv_iload_n hx hb d_RD_takesStatement_94 rfl (lv_at hl 4 rfl) ?_
            refine lv_iload hx hb d_RD_takesStatement_95 (lv_at hl 0 rfl) ?_
            refine cq_i (va_runV (As := [.int p2, .int x20]) (rest := []) ⟨hx, hb, hml, hown, hts⟩ (c_RD_begins l D G S90 _ p2 x20 N hI) (cwV 2 hts (gV kw176 kw177 kw627 kw3 kw178) rfl rfl rfl (by decide +kernel) ⟨by show (1 : Nat) + 1 ≤ 3; omega, by show 8 + (3 + 11) + 21 ≤ 67; omega⟩) ⟨blindC, va_recv (ci := 2) (q0 := 2) hK hP rfl (w_2 G S90), fun U hU hW => ⟨rfl, cPre_of hP hK hD hN hU hW⟩⟩ rfl rfl hl.1 rfl (lv_room (Nat.le_of_ble_eq_true rfl)) d_RD_takesStatement_97 ⟨Nat.zero_le _, Nat.zero_le _⟩) hD hS hA (fun x97 S97 H locs hw hP hD hS => ?_)
            obtain ⟨hw, hI, bx97⟩ := hw
            have ex97 : x97 = (f_RD_begins S90 p2 x20).1 := congrArg Prod.fst hw
            have eS97 : S97 = (f_RD_begins S90 p2 x20).2 := congrArg Prod.snd hw
            clear hw
            exact W.zret (v := x97) hx hb hr (bl_nar bx97) (fun t ht hW => ⟨⟨x97, S97, rfl, ⟨by subst eS97; subst ex97; subst eS90; subst eS67; subst eS58; subst ex57; subst eS48; subst ex47; subst ex20; subst ex2; simp only [f_RD_takesStatement, if_neg c_9, if_neg c_28, if_pos c_36, if_neg c_74, if_pos c_80], hI, bx97⟩, by rw [ht]; exact hP, hD⟩, hS.F ht⟩) hS.2.2 d_RD_takesStatement_100
    · refine lv_iconst (v := 0) hx hb d_RD_takesStatement_31 (by decide) ?_
      exact W.zret (v := 0) hx hb hr (bl_nar (Or.inl rfl)) (fun t ht hW => ⟨⟨0, S, rfl, ⟨by subst ex20; subst ex2; simp only [f_RD_takesStatement, if_neg c_9, if_pos c_28], hI, (Or.inl rfl)⟩, by rw [ht]; exact hP, hD⟩, hS.F ht⟩) hS.2.2 d_RD_takesStatement_32
  · refine lv_aload_n hx hb d_RD_takesStatement_12 rfl (lv_at hl 1 rfl) ?_
    refine lv_aload_n hx hb d_RD_takesStatement_13 rfl (lv_at hl 2 rfl) ?_
    refine lv_iload_n hx hb d_RD_takesStatement_14 rfl (lv_at hl 3 rfl) ?_
    refine cq_i (va_runV (As := [.ref (tA G k 0), .int p2]) (rest := []) ⟨hx, hb, hml, hown, hts⟩ (c_RD_closesBlock l D G S _ k p2 N hI hk) (cwV 2 hts (gV kw188 kw189 kw631 kw3 kw190) rfl rfl rfl (by decide +kernel) ⟨by show (2 : Nat) + 1 ≤ 3; omega, by show 8 + (5 + 11) + 43 ≤ 67; omega⟩) ⟨blindC, va_recv (ci := 2) (q0 := 2) hK hP rfl (w_2 G S), fun U hU hW => ⟨rfl, cPre_of hP hK hD hN hU hW⟩⟩ rfl rfl hl.1 rfl (lv_room (Nat.le_of_ble_eq_true rfl)) d_RD_takesStatement_15 ⟨Nat.zero_le _, Nat.zero_le _⟩) hD hS hA (fun x15 S15 H locs hw hP hD hS => ?_)
    obtain ⟨hw, hI, bx15⟩ := hw
    have ex15 : x15 = (f_RD_closesBlock S k p2).1 := congrArg Prod.fst hw
    have eS15 : S15 = (f_RD_closesBlock S k p2).2 := congrArg Prod.snd hw
    clear hw
    exact W.zret (v := x15) hx hb hr (bl_nar bx15) (fun t ht hW => ⟨⟨x15, S15, rfl, ⟨by subst eS15; subst ex15; subst ex2; simp only [f_RD_takesStatement, if_pos c_9], hI, bx15⟩, by rw [ht]; exact hP, hD⟩, hS.F ht⟩) hS.2.2 d_RD_takesStatement_18
set_option maxHeartbeats 4000000 in
set_option maxRecDepth 100000 in
theorem c_RD_lastOpen (l : Launch) (D : va_G) (G : GP) (S : CS) (k : Nat) (N : Nat) (hI : IC N S) (hk : k < 3) : Met l y_RD_lastOpen ws_RD_lastOpen ({ frames := 1, cells := 0, slots := 0, locals := 21 }) (va_Pc [.ref (aA G 2), .ref (tA G k 0)] (rPre D G S)) (vp_Si (fun r => r = f_RD_lastOpen S k)) 0 0 (fun _ => False) := by
  refine Met.ofW (cc := b_RD_lastOpen) (maxL := 2) (ret := (some .int)) (by decide) rfl ?_
  intro p e s m args below meth c s₁ B hml hv
  obtain ⟨rfl, hP, hK, hN⟩ := hv
  have hx := B.exec
  have hb := B.bytes
  have hr := B.returns
  have hts := atoms_spec (ws := ws_RD_lastOpen) B.pre
  have hown : s.vm.findClass R_RD = some m.cls := findClass_of_methodNamed B.named
  have hlocks := B.notSynchronized
  have hl := lv_entry ([.ref (aA G 2), .ref (tA G k 0)]) (n := 2) (Nat.le_of_ble_eq_true rfl)
  rw [lg_entry_eq]
  generalize (lg_sl ([.ref (aA G 2), .ref (tA G k 0)]) ++ List.replicate (2 - (lg_sl ([.ref (aA G 2), .ref (tA G k 0)])).length) Slot.unset).toArray = ls at hl ⊢
  have hl : lv_has ls 2 [(0, .ref (aA G 2)), (1, .ref (tA G k 0))] := hl
  refine lv_aload_n hx hb d_RD_lastOpen_0 rfl (lv_at hl 0 rfl) ?_
  refine va_get (D := D) (ci := 2) (v := .int (S.2 2 1)) (C := R_RD) (T := T_RD) (N := 8) hx hb hts (fun w h => List.mem_cons_of_mem _ (in_RD w h)) hown hK hP 2 (w_2 G S) rfl 1 (by decide) (hts _ (List.mem_cons_of_mem _ kw49)) (fun _ h9 => h9) rfl d_RD_lastOpen_1 ?_
  refine lv_if_le (tgt := 25) hx hb d_RD_lastOpen_4 (by decide) (fun c_4 => ?_) (fun c_4 => ?_)
  · refine lv_iconst (v := 0) hx hb d_RD_lastOpen_25 (by decide) ?_
    exact W.iret (v := 0) hx hb hr (fun t ht hW => ⟨0, rfl, by simp only [f_RD_lastOpen, if_pos c_4], ht⟩) (fun q h => absurd h List.not_mem_nil) d_RD_lastOpen_26
  · refine lv_aload_n hx hb d_RD_lastOpen_7 rfl (lv_at hl 1 rfl) ?_
    refine lv_aload_n hx hb d_RD_lastOpen_8 rfl (lv_at hl 0 rfl) ?_
    refine va_get (D := D) (ci := 2) (v := .ref (aA G 3)) (C := R_RD) (T := T_RD) (N := 8) hx hb hts (fun w h => List.mem_cons_of_mem _ (in_RD w h)) hown hK hP 2 (w_2 G S) rfl 0 (by decide) (hts _ (List.mem_cons_of_mem _ kw48)) (fun _ h9 => h9) rfl d_RD_lastOpen_9 ?_
    refine lv_aload_n hx hb d_RD_lastOpen_12 rfl (lv_at hl 0 rfl) ?_
    refine va_get (D := D) (ci := 2) (v := .int (S.2 2 1)) (C := R_RD) (T := T_RD) (N := 8) hx hb hts (fun w h => List.mem_cons_of_mem _ (in_RD w h)) hown hK hP 2 (w_2 G S) rfl 1 (by decide) (hts _ (List.mem_cons_of_mem _ kw49)) (fun _ h9 => h9) rfl d_RD_lastOpen_13 ?_
    refine lv_iconst (v := 1) hx hb d_RD_lastOpen_16 (by decide) ?_
    refine lv_isub hx hb d_RD_lastOpen_17 ?_
    refine lv_topi (fun x17 ex17 => ?_)
    refine va_iald (D := D) hx hb hK hP 3 0 (w_3 G S) rfl (by rw [ex17]; exact rm_in hI (i_nle0 c_4)) d_RD_lastOpen_18 ?_
    refine lv_topi (fun x18 ex18 => ?_)
    refine vp_callSi (W.runV (As := [.int x18]) (rest := []) ⟨hx, hb, hml, hown, hts⟩ (c_MT_signAt l D G S k x18 N hI hk) (cwV 1 hts (gV kw159 kw160 kw161 kw2 kw162) rfl rfl rfl (by decide +kernel) ⟨by show (0 : Nat) + 1 ≤ 1; omega, by show 8 + (2 + 11) + 0 ≤ 21; omega⟩) ⟨blindR, va_recv (ci := 1) (q0 := 13 + 7 * k) hK hP rfl (wt_0 G S hk), fun U hU hW => ⟨rfl, rPre_of hP hK hN hU hW⟩⟩ rfl rfl hl.1 rfl (lv_room (Nat.le_of_ble_eq_true rfl)) d_RD_lastOpen_19 ⟨Nat.zero_le _, Nat.zero_le _⟩) (fun x19 ex19 => ?_)
    refine lv_goto (tgt := 26) hx hb d_RD_lastOpen_22 (by decide) ?_
    exact W.iret (v := x19) hx hb hr (fun t ht hW => ⟨x19, rfl, by subst ex19; subst ex18; subst ex17; simp only [f_RD_lastOpen, if_neg c_4], ht⟩) (fun q h => absurd h List.not_mem_nil) d_RD_lastOpen_26
set_option maxHeartbeats 4000000 in
set_option maxRecDepth 100000 in
theorem c_RD_endsOperand (l : Launch) (D : va_G) (G : GP) (S : CS) (sz : Nat) (k : Nat) (p2 : Int32) (N : Nat) (hI : IC N S) (hk : k < 3) : Met l y_RD_endsOperand ws_RD_endsOperand ({ frames := 2, cells := 0, slots := 0, locals := 42 }) (va_Pc [.ref (aA G 2), .ref (tA G k 0), .int p2] (cPre D G S sz)) (va_Qi (fun (r : Int32) (S' : CS) => (r, S') = f_RD_endsOperand S k p2 ∧ IC N S' ∧ bl r) (wB D G (va_A (wC G S) sz)) (va_A (wC G S) sz)) 0 0 (va_A (wC G S) sz) := by
  refine Met.ofW (cc := b_RD_endsOperand) (maxL := 3) (ret := (some .boolean)) (by decide) rfl ?_
  intro p e s m args below meth c s₁ B hml hv
  obtain ⟨rfl, hsz, hP, hK, hD0, hN⟩ := hv
  have hx := B.exec
  have hb := B.bytes
  have hr := B.returns
  have hts := atoms_spec (ws := ws_RD_endsOperand) B.pre
  have hown : s.vm.findClass R_RD = some m.cls := findClass_of_methodNamed B.named
  have hlocks := B.notSynchronized
  subst hsz
  have hD := hD0.self (sz := s.heap.size)
  generalize hAe : va_A (wC G S) s.heap.size = A at hD ⊢
  have hA : ∀ q : Nat, s.heap.size ≤ q → A q := fun q h => by rw [← hAe]; exact Or.inr h
  have hS : va_S A s.heap s.heap [] := va_S.rf
  have hl := lv_entry ([.ref (aA G 2), .ref (tA G k 0), .int p2]) (n := 3) (Nat.le_of_ble_eq_true rfl)
  rw [lg_entry_eq]
  generalize (lg_sl ([.ref (aA G 2), .ref (tA G k 0), .int p2]) ++ List.replicate (3 - (lg_sl ([.ref (aA G 2), .ref (tA G k 0), .int p2])).length) Slot.unset).toArray = ls at hl ⊢
  have hl : lv_has ls 3 [(0, .ref (aA G 2)), (1, .ref (tA G k 0)), (2, .int p2)] := hl
  have loop : ∀ (n : Nat) (S1 : CS)  (H : Heap) (locs : List Loc) (ls : Array Slot), ((S1.2 2 1).toInt < (n : Int)) → f_RD_endsOperand S k p2 = q_RD_endsOperand_0 n S1 k p2 → va_P D vwCl (wC G S1) H → va_D A (wC G S1) → va_S A s.heap H locs → IC N S1 → lv_has ls 3 [(0, .ref (aA G 2)), (1, .ref (tA G k 0)), (2, .int p2)] → W p l e (headSpec ws_RD_endsOperand ({ frames := 2, cells := 0, slots := 0, locals := 42 })).room s m ([.ref (aA G 2), .ref (tA G k 0), .int p2] : List Value).toArray below meth c H locs 0 0 (MQ below (va_Qi (fun (r : Int32) (S' : CS) => (r, S') = f_RD_endsOperand S k p2 ∧ IC N S' ∧ bl r) (wB D G A) A) ([.ref (aA G 2), .ref (tA G k 0), .int p2] : List Value).toArray s 0 0 A) (F0 m 0 ls []) := by
    intro n
    induction n with
    | zero => intro S1  H locs ls hi hF hP hD hS hI hl; exact absurd hi (by have := hI.2.1.1; omega)
    | succ n ih =>
      intro S1  H locs ls hi hF hP hD hS hI hl
      have hI0 := hI
      refine lv_aload_n hx hb d_RD_endsOperand_0 rfl (lv_at hl 0 rfl) ?_
      refine va_get (D := D) (ci := 2) (v := .int (S1.2 2 1)) (C := R_RD) (T := T_RD) (N := 8) hx hb hts (fun w h => List.mem_cons_of_mem _ (in_RD w h)) hown hK hP 2 (w_2 G S1) rfl 1 (by decide) (hts _ (List.mem_cons_of_mem _ kw49)) (fun _ h9 => h9) rfl d_RD_endsOperand_1 ?_
      refine lv_if_le (tgt := 31) hx hb d_RD_endsOperand_4 (by decide) (fun c_4 => ?_) (fun c_4 => ?_)
      · refine lv_aload_n hx hb d_RD_endsOperand_31 rfl (lv_at hl 0 rfl) ?_
        refine lv_iload_n hx hb d_RD_endsOperand_32 rfl (lv_at hl 2 rfl) ?_
        refine cq_i (va_runV (As := [.int p2]) (rest := []) ⟨hx, hb, hml, hown, hts⟩ (c_RD_expects l D G S1 _ p2 N hI) (cwV 1 hts (gV kw179 kw180 kw628 kw3 kw181) rfl rfl rfl (by decide +kernel) ⟨by show (0 : Nat) + 1 ≤ 2; omega, by show 8 + (2 + 11) + 0 ≤ 42; omega⟩) ⟨blindC, va_recv (ci := 2) (q0 := 2) hK hP rfl (w_2 G S1), fun U hU hW => ⟨rfl, cPre_of hP hK hD hN hU hW⟩⟩ rfl rfl hl.1 rfl (lv_room (Nat.le_of_ble_eq_true rfl)) d_RD_endsOperand_33 ⟨Nat.zero_le _, Nat.zero_le _⟩) hD hS hA (fun x33 S33 H locs hw hP hD hS => ?_)
        obtain ⟨hw, hI, bx33⟩ := hw
        have ex33 : x33 = (f_RD_expects S1 p2).1 := congrArg Prod.fst hw
        have eS33 : S33 = (f_RD_expects S1 p2).2 := congrArg Prod.snd hw
        clear hw
        exact W.zret (v := x33) hx hb hr (bl_nar bx33) (fun t ht hW => ⟨⟨x33, S33, rfl, ⟨by rw [hF]; subst eS33; subst ex33; simp only [q_RD_endsOperand_0, if_pos c_4], hI, bx33⟩, by rw [ht]; exact hP, hD⟩, hS.F ht⟩) hS.2.2 d_RD_endsOperand_36
      · refine lv_aload_n hx hb d_RD_endsOperand_7 rfl (lv_at hl 0 rfl) ?_
        refine lv_aload_n hx hb d_RD_endsOperand_8 rfl (lv_at hl 1 rfl) ?_
        refine vp_callSi (W.runV (As := [.ref (tA G k 0)]) (rest := []) ⟨hx, hb, hml, hown, hts⟩ (c_RD_lastOpen l D G S1 k N hI hk) (cwV 1 hts (gV kw219 kw220 kw635 kw3 kw221) rfl rfl rfl (by decide +kernel) ⟨by show (1 : Nat) + 1 ≤ 2; omega, by show 8 + (2 + 11) + 21 ≤ 42; omega⟩) ⟨blindR, va_recv (ci := 2) (q0 := 2) hK hP rfl (w_2 G S1), fun U hU hW => ⟨rfl, rPre_of hP hK hN hU hW⟩⟩ rfl rfl hl.1 rfl (lv_room (Nat.le_of_ble_eq_true rfl)) d_RD_endsOperand_9 ⟨Nat.zero_le _, Nat.zero_le _⟩) (fun x9 ex9 => ?_)
        refine vp_callSi (va_runSN (As := [.int x9]) (rest := []) ⟨hx, hb, hml, hown, hts⟩ (c_GS_isPrefix l x9) ⟨va_cnB 1 hts (gW kw215) rfl rfl rfl (hN.1 (R_RD, 106, y_GS_isPrefix, "GateStack") (by decide +kernel)) (hts _ (List.mem_cons_of_mem _ kw1)) (by decide +kernel) ⟨by show (0 : Nat) + 1 ≤ 2; omega, by show 8 + (1 + 11) + 0 ≤ 42; omega⟩, (hts _ (List.mem_cons_of_mem _ kw214)), trivial⟩ ⟨blindP, fun U hU hW => ⟨rfl, NW_warm hW hN⟩⟩ rfl rfl hl.1 rfl (lv_room (Nat.le_of_ble_eq_true rfl)) d_RD_endsOperand_12 ⟨Nat.zero_le _, Nat.zero_le _⟩).run (fun x12 ex12 => ?_)
        obtain ⟨ex12, bx12⟩ := ex12
        refine lv_if_eq (tgt := 31) hx hb d_RD_endsOperand_15 (by decide) (fun c_15 => ?_) (fun c_15 => ?_)
        · refine lv_aload_n hx hb d_RD_endsOperand_31 rfl (lv_at hl 0 rfl) ?_
          refine lv_iload_n hx hb d_RD_endsOperand_32 rfl (lv_at hl 2 rfl) ?_
          refine cq_i (va_runV (As := [.int p2]) (rest := []) ⟨hx, hb, hml, hown, hts⟩ (c_RD_expects l D G S1 _ p2 N hI) (cwV 1 hts (gV kw179 kw180 kw628 kw3 kw181) rfl rfl rfl (by decide +kernel) ⟨by show (0 : Nat) + 1 ≤ 2; omega, by show 8 + (2 + 11) + 0 ≤ 42; omega⟩) ⟨blindC, va_recv (ci := 2) (q0 := 2) hK hP rfl (w_2 G S1), fun U hU hW => ⟨rfl, cPre_of hP hK hD hN hU hW⟩⟩ rfl rfl hl.1 rfl (lv_room (Nat.le_of_ble_eq_true rfl)) d_RD_endsOperand_33 ⟨Nat.zero_le _, Nat.zero_le _⟩) hD hS hA (fun x33 S33 H locs hw hP hD hS => ?_)
          obtain ⟨hw, hI, bx33⟩ := hw
          have ex33 : x33 = (f_RD_expects S1 p2).1 := congrArg Prod.fst hw
          have eS33 : S33 = (f_RD_expects S1 p2).2 := congrArg Prod.snd hw
          clear hw
          exact W.zret (v := x33) hx hb hr (bl_nar bx33) (fun t ht hW => ⟨⟨x33, S33, rfl, ⟨by rw [hF]; subst eS33; subst ex33; subst ex12; subst ex9; simp only [q_RD_endsOperand_0, if_neg c_4, if_pos c_15], hI, bx33⟩, by rw [ht]; exact hP, hD⟩, hS.F ht⟩) hS.2.2 d_RD_endsOperand_36
        · refine lv_aload_n hx hb d_RD_endsOperand_18 rfl (lv_at hl 0 rfl) ?_
          refine lv_dup hx hb d_RD_endsOperand_19 rfl ?_
          refine va_get (D := D) (ci := 2) (v := .int (S1.2 2 1)) (C := R_RD) (T := T_RD) (N := 8) hx hb hts (fun w h => List.mem_cons_of_mem _ (in_RD w h)) hown hK hP 2 (w_2 G S1) rfl 1 (by decide) (hts _ (List.mem_cons_of_mem _ kw49)) (fun _ h9 => h9) rfl d_RD_endsOperand_20 ?_
          refine lv_iconst (v := 1) hx hb d_RD_endsOperand_23 (by decide) ?_
          refine lv_isub hx hb d_RD_endsOperand_24 ?_
          refine lv_topi (fun x24 ex24 => ?_)
          refine va_putE (D := D) (ci := 2) (v := .int x24) (ty := .int) (C := R_RD) (T := T_RD) (N := 8) hx hb hts (fun w h => List.mem_cons_of_mem _ (in_RD w h)) t_RD t_RD_ok n_RD hown hK hP hD hS 2 (w_2 G S1) rfl 1 (by decide) (hts _ (List.mem_cons_of_mem _ kw49)) (fun _ h9 => h9) rfl (by decide +kernel) rfl rfl (Nat.le_of_ble_eq_true rfl) (wst_2_1 G S1 x24) d_RD_endsOperand_25 (fun H locs hP hD hS => ?_)
          obtain ⟨S25, eS25⟩ : ∃ y : CS, y = stR S1 2 1 x24 := ⟨_, rfl⟩
          rw [← eS25] at hP hD
          have hI : IC N S25 := by rw [eS25]; exact (have q := rd_m hI (i_nle0 c_4); IC_rd hI _ (by rw [ex24]; exact q.1) (by rw [ex24]; exact Int.le_of_lt q.2))
          refine lv_goto (tgt := 0) hx hb d_RD_endsOperand_28 (by decide) ?_
          exact ih S25   _ _ ls (by rw [eS25]; show (x24).toInt < (n : Int); rw [ex24]; exact rd_lt hI0 (i_nle0 c_4) hi) (by rw [hF]; subst eS25; subst ex24; subst ex12; subst ex9; simp only [q_RD_endsOperand_0, if_neg c_4, if_neg c_15]) hP hD hS hI (lv_sub hl [0, 1, 2] rfl)
  exact loop (fz 7) S   _ _ ls (by have := hI.2.1.2; rw [fz_eq]; omega) (by simp only [f_RD_endsOperand]) hP hD hS hI hl
set_option maxHeartbeats 4000000 in
set_option maxRecDepth 100000 in
theorem c_RD_takesOperand (l : Launch) (D : va_G) (G : GP) (S : CS) (sz : Nat) (k : Nat) (p2 : Int32) (N : Nat) (hI : IC N S) (hk : k < 3) : Met l y_RD_takesOperand ws_RD_takesOperand ({ frames := 3, cells := 0, slots := 0, locals := 64 }) (va_Pc [.ref (aA G 2), .ref (tA G k 0), .int p2] (cPre D G S sz)) (va_Qi (fun (r : Int32) (S' : CS) => (r, S') = f_RD_takesOperand S k p2 ∧ IC N S' ∧ bl r) (wB D G (va_A (wC G S) sz)) (va_A (wC G S) sz)) 0 0 (va_A (wC G S) sz) := by
  refine Met.ofW (cc := b_RD_takesOperand) (maxL := 4) (ret := (some .boolean)) (by decide) rfl ?_
  intro p e s m args below meth c s₁ B hml hv
  obtain ⟨rfl, hsz, hP, hK, hD0, hN⟩ := hv
  have hx := B.exec
  have hb := B.bytes
  have hr := B.returns
  have hts := atoms_spec (ws := ws_RD_takesOperand) B.pre
  have hown : s.vm.findClass R_RD = some m.cls := findClass_of_methodNamed B.named
  have hlocks := B.notSynchronized
  subst hsz
  have hD := hD0.self (sz := s.heap.size)
  generalize hAe : va_A (wC G S) s.heap.size = A at hD ⊢
  have hA : ∀ q : Nat, s.heap.size ≤ q → A q := fun q h => by rw [← hAe]; exact Or.inr h
  have hS : va_S A s.heap s.heap [] := va_S.rf
  have hl := lv_entry ([.ref (aA G 2), .ref (tA G k 0), .int p2]) (n := 4) (Nat.le_of_ble_eq_true rfl)
  rw [lg_entry_eq]
  generalize (lg_sl ([.ref (aA G 2), .ref (tA G k 0), .int p2]) ++ List.replicate (4 - (lg_sl ([.ref (aA G 2), .ref (tA G k 0), .int p2])).length) Slot.unset).toArray = ls at hl ⊢
  have hl : lv_has ls 4 [(0, .ref (aA G 2)), (1, .ref (tA G k 0)), (2, .int p2)] := hl
  refine lv_aload_n hx hb d_RD_takesOperand_0 rfl (lv_at hl 1 rfl) ?_
  refine lv_iload_n hx hb d_RD_takesOperand_1 rfl (lv_at hl 2 rfl) ?_
  refine vp_callSi (W.runV (As := [.int p2]) (rest := []) ⟨hx, hb, hml, hown, hts⟩ (c_MT_signAt l D G S k p2 N hI hk) (cwV 1 hts (gV kw159 kw160 kw161 kw2 kw162) rfl rfl rfl (by decide +kernel) ⟨by show (0 : Nat) + 1 ≤ 3; omega, by show 8 + (2 + 11) + 0 ≤ 64; omega⟩) ⟨blindR, va_recv (ci := 1) (q0 := 13 + 7 * k) hK hP rfl (wt_0 G S hk), fun U hU hW => ⟨rfl, rPre_of hP hK hN hU hW⟩⟩ rfl rfl hl.1 rfl (lv_room (Nat.le_of_ble_eq_true rfl)) d_RD_takesOperand_2 ⟨Nat.zero_le _, Nat.zero_le _⟩) (fun x2 ex2 => ?_)
  refine lv_istore_n (lv' := [(3, .int x2), (0, .ref (aA G 2)), (1, .ref (tA G k 0)), (2, .int p2)]) hx hb d_RD_takesOperand_5 rfl hl (by decide) rfl (fun ls hl => ?_)
  refine lv_iload_n hx hb d_RD_takesOperand_6 rfl (lv_at hl 0 rfl) ?_
  refine lv_bipush (v := 40) hx hb d_RD_takesOperand_7 (by decide) ?_
  refine lv_icmp_eq (tgt := 19) hx hb d_RD_takesOperand_9 (by decide) (fun c_9 => ?_) (fun c_9 => ?_)
  · refine lv_aload_n hx hb d_RD_takesOperand_19 rfl (lv_at hl 1 rfl) ?_
    refine lv_iload_n hx hb d_RD_takesOperand_20 rfl (lv_at hl 3 rfl) ?_
    refine lv_bipush (v := 6) hx hb d_RD_takesOperand_21 (by decide) ?_
    refine cq_i (va_runV (As := [.int p2, .int 6]) (rest := []) ⟨hx, hb, hml, hown, hts⟩ (c_RD_opens l D G S _ p2 6 N hI) (cwV 2 hts (gV kw182 kw183 kw629 kw3 kw184) rfl rfl rfl (by decide +kernel) ⟨by show (1 : Nat) + 1 ≤ 3; omega, by show 8 + (3 + 11) + 21 ≤ 64; omega⟩) ⟨blindC, va_recv (ci := 2) (q0 := 2) hK hP rfl (w_2 G S), fun U hU hW => ⟨rfl, cPre_of hP hK hD hN hU hW⟩⟩ rfl rfl hl.1 rfl (lv_room (Nat.le_of_ble_eq_true rfl)) d_RD_takesOperand_23 ⟨Nat.zero_le _, Nat.zero_le _⟩) hD hS hA (fun x23 S23 H locs hw hP hD hS => ?_)
    obtain ⟨hw, hI, bx23⟩ := hw
    have ex23 : x23 = (f_RD_opens S p2 6).1 := congrArg Prod.fst hw
    have eS23 : S23 = (f_RD_opens S p2 6).2 := congrArg Prod.snd hw
    clear hw
    exact W.zret (v := x23) hx hb hr (bl_nar bx23) (fun t ht hW => ⟨⟨x23, S23, rfl, ⟨by subst eS23; subst ex23; subst ex2; simp only [f_RD_takesOperand, if_pos c_9], hI, bx23⟩, by rw [ht]; exact hP, hD⟩, hS.F ht⟩) hS.2.2 d_RD_takesOperand_26
  · refine lv_iload_n hx hb d_RD_takesOperand_12 rfl (lv_at hl 0 rfl) ?_
    refine vp_callSi (va_runSN (As := [.int x2]) (rest := []) ⟨hx, hb, hml, hown, hts⟩ (c_GS_isPrefix l x2) ⟨va_cnB 1 hts (gW kw215) rfl rfl rfl (hN.1 (R_RD, 106, y_GS_isPrefix, "GateStack") (by decide +kernel)) (hts _ (List.mem_cons_of_mem _ kw1)) (by decide +kernel) ⟨by show (0 : Nat) + 1 ≤ 3; omega, by show 8 + (1 + 11) + 0 ≤ 64; omega⟩, (hts _ (List.mem_cons_of_mem _ kw214)), trivial⟩ ⟨blindP, fun U hU hW => ⟨rfl, NW_warm hW hN⟩⟩ rfl rfl hl.1 rfl (lv_room (Nat.le_of_ble_eq_true rfl)) d_RD_takesOperand_13 ⟨Nat.zero_le _, Nat.zero_le _⟩).run (fun x13 ex13 => ?_)
    obtain ⟨ex13, bx13⟩ := ex13
    refine lv_if_eq (tgt := 27) hx hb d_RD_takesOperand_16 (by decide) (fun c_16 => ?_) (fun c_16 => ?_)
    · refine lv_iload_n hx hb d_RD_takesOperand_27 rfl (lv_at hl 0 rfl) ?_
      refine vp_callSi (va_runSN (As := [.int x2]) (rest := []) ⟨hx, hb, hml, hown, hts⟩ (c_GS_isVariable l x2) ⟨va_cnB 1 hts (gW kw202) rfl rfl rfl (hN.1 (R_RD, 100, y_GS_isVariable, "GateStack") (by decide +kernel)) (hts _ (List.mem_cons_of_mem _ kw1)) (by decide +kernel) ⟨by show (0 : Nat) + 1 ≤ 3; omega, by show 8 + (1 + 11) + 0 ≤ 64; omega⟩, (hts _ (List.mem_cons_of_mem _ kw201)), trivial⟩ ⟨blindP, fun U hU hW => ⟨rfl, NW_warm hW hN⟩⟩ rfl rfl hl.1 rfl (lv_room (Nat.le_of_ble_eq_true rfl)) d_RD_takesOperand_28 ⟨Nat.zero_le _, Nat.zero_le _⟩).run (fun x28 ex28 => ?_)
      obtain ⟨ex28, bx28⟩ := ex28
      refine lv_if_eq (tgt := 42) hx hb d_RD_takesOperand_31 (by decide) (fun c_31 => ?_) (fun c_31 => ?_)
      · refine lv_aload_n hx hb d_RD_takesOperand_42 rfl (lv_at hl 1 rfl) ?_
        refine lv_iconst (v := 1) hx hb d_RD_takesOperand_43 (by decide) ?_
        refine va_putE (D := D) (ci := 2) (v := .int 1) (ty := .int) (C := R_RD) (T := T_RD) (N := 8) hx hb hts (fun w h => List.mem_cons_of_mem _ (in_RD w h)) t_RD t_RD_ok n_RD hown hK hP hD hS 2 (w_2 G S) rfl 5 (by decide) (hts _ (List.mem_cons_of_mem _ kw53)) (fun _ h9 => h9) rfl (by decide +kernel) rfl rfl (Nat.le_of_ble_eq_true rfl) (wst_2_5 G S 1) d_RD_takesOperand_44 (fun H locs hP hD hS => ?_)
        obtain ⟨S44, eS44⟩ : ∃ y : CS, y = stR S 2 5 1 := ⟨_, rfl⟩
        rw [← eS44] at hP hD
        have hI : IC N S44 := by rw [eS44]; exact IC_R hI _ _ _ (by decide)
        refine lv_iload_n hx hb d_RD_takesOperand_47 rfl (lv_at hl 0 rfl) ?_
        refine vp_callSi (va_runSN (As := [.int x2]) (rest := []) ⟨hx, hb, hml, hown, hts⟩ (c_GS_isDigit l x2) ⟨va_cnB 1 hts (gW kw223) rfl rfl rfl (hN.1 (R_RD, 62, y_GS_isDigit, "GateStack") (by decide +kernel)) (hts _ (List.mem_cons_of_mem _ kw1)) (by decide +kernel) ⟨by show (0 : Nat) + 1 ≤ 3; omega, by show 8 + (1 + 11) + 0 ≤ 64; omega⟩, (hts _ (List.mem_cons_of_mem _ kw222)), trivial⟩ ⟨blindP, fun U hU hW => ⟨rfl, NW_warm hW hN⟩⟩ rfl rfl hl.1 rfl (lv_room (Nat.le_of_ble_eq_true rfl)) d_RD_takesOperand_48 ⟨Nat.zero_le _, Nat.zero_le _⟩).run (fun x48 ex48 => ?_)
        obtain ⟨ex48, bx48⟩ := ex48
        refine lv_if_eq (tgt := 68) hx hb d_RD_takesOperand_51 (by decide) (fun c_51 => ?_) (fun c_51 => ?_)
        · refine lv_iconst (v := 0) hx hb d_RD_takesOperand_68 (by decide) ?_
          exact W.zret (v := 0) hx hb hr (bl_nar (Or.inl rfl)) (fun t ht hW => ⟨⟨0, S44, rfl, ⟨by subst ex48; subst eS44; subst ex28; subst ex13; subst ex2; simp only [f_RD_takesOperand, if_neg c_9, if_pos c_16, if_pos c_31, if_pos c_51], hI, (Or.inl rfl)⟩, by rw [ht]; exact hP, hD⟩, hS.F ht⟩) hS.2.2 d_RD_takesOperand_69
        · refine lv_aload_n hx hb d_RD_takesOperand_54 rfl (lv_at hl 1 rfl) ?_
          refine lv_aload_n hx hb d_RD_takesOperand_55 rfl (lv_at hl 2 rfl) ?_
          refine lv_bipush (v := 7) hx hb d_RD_takesOperand_56 (by decide) ?_
          refine cq_i (va_runV (As := [.ref (tA G k 0), .int 7]) (rest := []) ⟨hx, hb, hml, hown, hts⟩ (c_RD_endsOperand l D G S44 _ k 7 N hI hk) (cwV 2 hts (gV kw216 kw217 kw634 kw3 kw218) rfl rfl rfl (by decide +kernel) ⟨by show (2 : Nat) + 1 ≤ 3; omega, by show 8 + (3 + 11) + 42 ≤ 64; omega⟩) ⟨blindC, va_recv (ci := 2) (q0 := 2) hK hP rfl (w_2 G S44), fun U hU hW => ⟨rfl, cPre_of hP hK hD hN hU hW⟩⟩ rfl rfl hl.1 rfl (lv_room (Nat.le_of_ble_eq_true rfl)) d_RD_takesOperand_58 ⟨Nat.zero_le _, Nat.zero_le _⟩) hD hS hA (fun x58 S58 H locs hw hP hD hS => ?_)
          obtain ⟨hw, hI, bx58⟩ := hw
          have ex58 : x58 = (f_RD_endsOperand S44 k 7).1 := congrArg Prod.fst hw
          have eS58 : S58 = (f_RD_endsOperand S44 k 7).2 := congrArg Prod.snd hw
          clear hw
          refine lv_if_eq (tgt := 68) hx hb d_RD_takesOperand_61 (by decide) (fun c_61 => ?_) (fun c_61 => ?_)
          · refine lv_iconst (v := 0) hx hb d_RD_takesOperand_68 (by decide) ?_
            exact W.zret (v := 0) hx hb hr (bl_nar (Or.inl rfl)) (fun t ht hW => ⟨⟨0, S58, rfl, ⟨by subst eS58; subst ex58; subst ex48; subst eS44; subst ex28; subst ex13; subst ex2; simp only [f_RD_takesOperand, if_neg c_9, if_pos c_16, if_pos c_31, if_neg c_51, if_pos c_61], hI, (Or.inl rfl)⟩, by rw [ht]; exact hP, hD⟩, hS.F ht⟩) hS.2.2 d_RD_takesOperand_69
          · refine lv_iconst (v := 1) hx hb d_RD_takesOperand_64 (by decide) ?_
            refine lv_goto (tgt := 69) hx hb d_RD_takesOperand_65 (by decide) ?_
            exact W.zret (v := 1) hx hb hr (bl_nar (Or.inr rfl)) (fun t ht hW => ⟨⟨1, S58, rfl, ⟨by subst eS58; subst ex58; subst ex48; subst eS44; subst ex28; subst ex13; subst ex2; simp only [f_RD_takesOperand, if_neg c_9, if_pos c_16, if_pos c_31, if_neg c_51, if_neg c_61], hI, (Or.inr rfl)⟩, by rw [ht]; exact hP, hD⟩, hS.F ht⟩) hS.2.2 d_RD_takesOperand_69
      · refine lv_aload_n hx hb d_RD_takesOperand_34 rfl (lv_at hl 1 rfl) ?_
        refine lv_aload_n hx hb d_RD_takesOperand_35 rfl (lv_at hl 2 rfl) ?_
        refine lv_bipush (v := 8) hx hb d_RD_takesOperand_36 (by decide) ?_
        refine cq_i (va_runV (As := [.ref (tA G k 0), .int 8]) (rest := []) ⟨hx, hb, hml, hown, hts⟩ (c_RD_endsOperand l D G S _ k 8 N hI hk) (cwV 2 hts (gV kw216 kw217 kw634 kw3 kw218) rfl rfl rfl (by decide +kernel) ⟨by show (2 : Nat) + 1 ≤ 3; omega, by show 8 + (3 + 11) + 42 ≤ 64; omega⟩) ⟨blindC, va_recv (ci := 2) (q0 := 2) hK hP rfl (w_2 G S), fun U hU hW => ⟨rfl, cPre_of hP hK hD hN hU hW⟩⟩ rfl rfl hl.1 rfl (lv_room (Nat.le_of_ble_eq_true rfl)) d_RD_takesOperand_38 ⟨Nat.zero_le _, Nat.zero_le _⟩) hD hS hA (fun x38 S38 H locs hw hP hD hS => ?_)
        obtain ⟨hw, hI, bx38⟩ := hw
        have ex38 : x38 = (f_RD_endsOperand S k 8).1 := congrArg Prod.fst hw
        have eS38 : S38 = (f_RD_endsOperand S k 8).2 := congrArg Prod.snd hw
        clear hw
        exact W.zret (v := x38) hx hb hr (bl_nar bx38) (fun t ht hW => ⟨⟨x38, S38, rfl, ⟨by subst eS38; subst ex38; subst ex28; subst ex13; subst ex2; simp only [f_RD_takesOperand, if_neg c_9, if_pos c_16, if_neg c_31], hI, bx38⟩, by rw [ht]; exact hP, hD⟩, hS.F ht⟩) hS.2.2 d_RD_takesOperand_41
    · refine lv_aload_n hx hb d_RD_takesOperand_19 rfl (lv_at hl 1 rfl) ?_
      refine lv_iload_n hx hb d_RD_takesOperand_20 rfl (lv_at hl 3 rfl) ?_
      refine lv_bipush (v := 6) hx hb d_RD_takesOperand_21 (by decide) ?_
      refine cq_i (va_runV (As := [.int p2, .int 6]) (rest := []) ⟨hx, hb, hml, hown, hts⟩ (c_RD_opens l D G S _ p2 6 N hI) (cwV 2 hts (gV kw182 kw183 kw629 kw3 kw184) rfl rfl rfl (by decide +kernel) ⟨by show (1 : Nat) + 1 ≤ 3; omega, by show 8 + (3 + 11) + 21 ≤ 64; omega⟩) ⟨blindC, va_recv (ci := 2) (q0 := 2) hK hP rfl (w_2 G S), fun U hU hW => ⟨rfl, cPre_of hP hK hD hN hU hW⟩⟩ rfl rfl hl.1 rfl (lv_room (Nat.le_of_ble_eq_true rfl)) d_RD_takesOperand_23 ⟨Nat.zero_le _, Nat.zero_le _⟩) hD hS hA (fun x23 S23 H locs hw hP hD hS => ?_)
      obtain ⟨hw, hI, bx23⟩ := hw
      have ex23 : x23 = (f_RD_opens S p2 6).1 := congrArg Prod.fst hw
      have eS23 : S23 = (f_RD_opens S p2 6).2 := congrArg Prod.snd hw
      clear hw
      exact W.zret (v := x23) hx hb hr (bl_nar bx23) (fun t ht hW => ⟨⟨x23, S23, rfl, ⟨by subst eS23; subst ex23; subst ex13; subst ex2; simp only [f_RD_takesOperand, if_neg c_9, if_neg c_16], hI, bx23⟩, by rw [ht]; exact hP, hD⟩, hS.F ht⟩) hS.2.2 d_RD_takesOperand_26
set_option maxHeartbeats 4000000 in
set_option maxRecDepth 100000 in
theorem c_RD_takesDigit (l : Launch) (D : va_G) (G : GP) (S : CS) (sz : Nat) (N : Nat) (hI : IC N S) : Met l y_RD_takesDigit ws_RD_takesDigit ({ frames := 0, cells := 0, slots := 0, locals := 0 }) (va_Pc [.ref (aA G 2)] (cPre D G S sz)) (va_Qi (fun (r : Int32) (S' : CS) => (r, S') = f_RD_takesDigit S ∧ IC N S' ∧ bl r) (wB D G (va_A (wC G S) sz)) (va_A (wC G S) sz)) 0 0 (va_A (wC G S) sz) := by
  refine Met.ofW (cc := b_RD_takesDigit) (maxL := 1) (ret := (some .boolean)) (by decide) rfl ?_
  intro p e s m args below meth c s₁ B hml hv
  obtain ⟨rfl, hsz, hP, hK, hD0, hN⟩ := hv
  have hx := B.exec
  have hb := B.bytes
  have hr := B.returns
  have hts := atoms_spec (ws := ws_RD_takesDigit) B.pre
  have hown : s.vm.findClass R_RD = some m.cls := findClass_of_methodNamed B.named
  have hlocks := B.notSynchronized
  subst hsz
  have hD := hD0.self (sz := s.heap.size)
  generalize hAe : va_A (wC G S) s.heap.size = A at hD ⊢
  have hA : ∀ q : Nat, s.heap.size ≤ q → A q := fun q h => by rw [← hAe]; exact Or.inr h
  have hS : va_S A s.heap s.heap [] := va_S.rf
  have hl := lv_entry ([.ref (aA G 2)]) (n := 1) (Nat.le_of_ble_eq_true rfl)
  rw [lg_entry_eq]
  generalize (lg_sl ([.ref (aA G 2)]) ++ List.replicate (1 - (lg_sl ([.ref (aA G 2)])).length) Slot.unset).toArray = ls at hl ⊢
  have hl : lv_has ls 1 [(0, .ref (aA G 2))] := hl
  refine lv_aload_n hx hb d_RD_takesDigit_0 rfl (lv_at hl 0 rfl) ?_
  refine lv_dup hx hb d_RD_takesDigit_1 rfl ?_
  refine va_get (D := D) (ci := 2) (v := .int (S.2 2 5)) (C := R_RD) (T := T_RD) (N := 8) hx hb hts (fun w h => List.mem_cons_of_mem _ (in_RD w h)) hown hK hP 2 (w_2 G S) rfl 5 (by decide) (hts _ (List.mem_cons_of_mem _ kw53)) (fun _ h9 => h9) rfl d_RD_takesDigit_2 ?_
  refine lv_iconst (v := 1) hx hb d_RD_takesDigit_5 (by decide) ?_
  refine lv_iadd hx hb d_RD_takesDigit_6 ?_
  refine lv_topi (fun x6 ex6 => ?_)
  refine va_putE (D := D) (ci := 2) (v := .int x6) (ty := .int) (C := R_RD) (T := T_RD) (N := 8) hx hb hts (fun w h => List.mem_cons_of_mem _ (in_RD w h)) t_RD t_RD_ok n_RD hown hK hP hD hS 2 (w_2 G S) rfl 5 (by decide) (hts _ (List.mem_cons_of_mem _ kw53)) (fun _ h9 => h9) rfl (by decide +kernel) rfl rfl (Nat.le_of_ble_eq_true rfl) (wst_2_5 G S x6) d_RD_takesDigit_7 (fun H locs hP hD hS => ?_)
  obtain ⟨S7, eS7⟩ : ∃ y : CS, y = stR S 2 5 x6 := ⟨_, rfl⟩
  rw [← eS7] at hP hD
  have hI : IC N S7 := by rw [eS7]; exact IC_R hI _ _ _ (by decide)
  refine lv_aload_n hx hb d_RD_takesDigit_10 rfl (lv_at hl 0 rfl) ?_
  refine va_get (D := D) (ci := 2) (v := .int (S7.2 2 5)) (C := R_RD) (T := T_RD) (N := 8) hx hb hts (fun w h => List.mem_cons_of_mem _ (in_RD w h)) hown hK hP 2 (w_2 G S7) rfl 5 (by decide) (hts _ (List.mem_cons_of_mem _ kw53)) (fun _ h9 => h9) rfl d_RD_takesDigit_11 ?_
  refine lv_iconst (v := 4) hx hb d_RD_takesDigit_14 (by decide) ?_
  refine lv_icmp_gt (tgt := 22) hx hb d_RD_takesDigit_15 (by decide) (fun c_15 => ?_) (fun c_15 => ?_)
  · refine lv_iconst (v := 0) hx hb d_RD_takesDigit_22 (by decide) ?_
    exact W.zret (v := 0) hx hb hr (bl_nar (Or.inl rfl)) (fun t ht hW => ⟨⟨0, S7, rfl, ⟨by subst eS7; subst ex6; simp only [f_RD_takesDigit, if_pos c_15], hI, (Or.inl rfl)⟩, by rw [ht]; exact hP, hD⟩, hS.F ht⟩) hS.2.2 d_RD_takesDigit_23
  · refine lv_iconst (v := 1) hx hb d_RD_takesDigit_18 (by decide) ?_
    refine lv_goto (tgt := 23) hx hb d_RD_takesDigit_19 (by decide) ?_
    exact W.zret (v := 1) hx hb hr (bl_nar (Or.inr rfl)) (fun t ht hW => ⟨⟨1, S7, rfl, ⟨by subst eS7; subst ex6; simp only [f_RD_takesDigit, if_neg c_15], hI, (Or.inr rfl)⟩, by rw [ht]; exact hP, hD⟩, hS.F ht⟩) hS.2.2 d_RD_takesDigit_23
set_option maxHeartbeats 4000000 in
set_option maxRecDepth 100000 in
theorem c_RD_takesOperator (l : Launch) (D : va_G) (G : GP) (S : CS) (sz : Nat) (k : Nat) (p2 : Int32) (N : Nat) (hI : IC N S) (hk : k < 3) : Met l y_RD_takesOperator ws_RD_takesOperator ({ frames := 3, cells := 0, slots := 0, locals := 64 }) (va_Pc [.ref (aA G 2), .ref (tA G k 0), .int p2] (cPre D G S sz)) (va_Qi (fun (r : Int32) (S' : CS) => (r, S') = f_RD_takesOperator S k p2 ∧ IC N S' ∧ bl r) (wB D G (va_A (wC G S) sz)) (va_A (wC G S) sz)) 0 0 (va_A (wC G S) sz) := by
  refine Met.ofW (cc := b_RD_takesOperator) (maxL := 5) (ret := (some .boolean)) (by decide) rfl ?_
  intro p e s m args below meth c s₁ B hml hv
  obtain ⟨rfl, hsz, hP, hK, hD0, hN⟩ := hv
  have hx := B.exec
  have hb := B.bytes
  have hr := B.returns
  have hts := atoms_spec (ws := ws_RD_takesOperator) B.pre
  have hown : s.vm.findClass R_RD = some m.cls := findClass_of_methodNamed B.named
  have hlocks := B.notSynchronized
  subst hsz
  have hD := hD0.self (sz := s.heap.size)
  generalize hAe : va_A (wC G S) s.heap.size = A at hD ⊢
  have hA : ∀ q : Nat, s.heap.size ≤ q → A q := fun q h => by rw [← hAe]; exact Or.inr h
  have hS : va_S A s.heap s.heap [] := va_S.rf
  have hl := lv_entry ([.ref (aA G 2), .ref (tA G k 0), .int p2]) (n := 5) (Nat.le_of_ble_eq_true rfl)
  rw [lg_entry_eq]
  generalize (lg_sl ([.ref (aA G 2), .ref (tA G k 0), .int p2]) ++ List.replicate (5 - (lg_sl ([.ref (aA G 2), .ref (tA G k 0), .int p2])).length) Slot.unset).toArray = ls at hl ⊢
  have hl : lv_has ls 5 [(0, .ref (aA G 2)), (1, .ref (tA G k 0)), (2, .int p2)] := hl
  refine lv_aload_n hx hb d_RD_takesOperator_0 rfl (lv_at hl 1 rfl) ?_
  refine lv_iload_n hx hb d_RD_takesOperator_1 rfl (lv_at hl 2 rfl) ?_
  refine vp_callSi (W.runV (As := [.int p2]) (rest := []) ⟨hx, hb, hml, hown, hts⟩ (c_MT_signAt l D G S k p2 N hI hk) (cwV 1 hts (gV kw159 kw160 kw161 kw2 kw162) rfl rfl rfl (by decide +kernel) ⟨by show (0 : Nat) + 1 ≤ 3; omega, by show 8 + (2 + 11) + 0 ≤ 64; omega⟩) ⟨blindR, va_recv (ci := 1) (q0 := 13 + 7 * k) hK hP rfl (wt_0 G S hk), fun U hU hW => ⟨rfl, rPre_of hP hK hN hU hW⟩⟩ rfl rfl hl.1 rfl (lv_room (Nat.le_of_ble_eq_true rfl)) d_RD_takesOperator_2 ⟨Nat.zero_le _, Nat.zero_le _⟩) (fun x2 ex2 => ?_)
  refine lv_istore_n (lv' := [(3, .int x2), (0, .ref (aA G 2)), (1, .ref (tA G k 0)), (2, .int p2)]) hx hb d_RD_takesOperator_5 rfl hl (by decide) rfl (fun ls hl => ?_)
  refine lv_iload_n hx hb d_RD_takesOperator_6 rfl (lv_at hl 0 rfl) ?_
  refine vp_callSi (va_runSN (As := [.int x2]) (rest := []) ⟨hx, hb, hml, hown, hts⟩ (c_GS_operationOf l x2) ⟨va_cnB 1 hts (gW kw231) rfl rfl rfl (hN.1 (R_RD, 115, y_GS_operationOf, "GateStack") (by decide +kernel)) (hts _ (List.mem_cons_of_mem _ kw1)) (by decide +kernel) ⟨by show (0 : Nat) + 1 ≤ 3; omega, by show 8 + (1 + 11) + 0 ≤ 64; omega⟩, (hts _ (List.mem_cons_of_mem _ kw230)), trivial⟩ ⟨blindP, fun U hU hW => ⟨rfl, NW_warm hW hN⟩⟩ rfl rfl hl.1 rfl (lv_room (Nat.le_of_ble_eq_true rfl)) d_RD_takesOperator_7 ⟨Nat.zero_le _, Nat.zero_le _⟩).run (fun x7 ex7 => ?_)
  refine lv_iconst (v := (-1)) hx hb d_RD_takesOperator_10 (by decide) ?_
  refine lv_icmp_eq (tgt := 21) hx hb d_RD_takesOperator_11 (by decide) (fun c_11 => ?_) (fun c_11 => ?_)
  · refine lv_aload_n hx hb d_RD_takesOperator_21 rfl (lv_at hl 1 rfl) ?_
    refine lv_aload_n hx hb d_RD_takesOperator_22 rfl (lv_at hl 2 rfl) ?_
    refine vp_callSi (W.runV (As := [.ref (tA G k 0)]) (rest := []) ⟨hx, hb, hml, hown, hts⟩ (c_RD_lastOpen l D G S k N hI hk) (cwV 1 hts (gV kw219 kw220 kw635 kw3 kw221) rfl rfl rfl (by decide +kernel) ⟨by show (1 : Nat) + 1 ≤ 3; omega, by show 8 + (2 + 11) + 21 ≤ 64; omega⟩) ⟨blindR, va_recv (ci := 2) (q0 := 2) hK hP rfl (w_2 G S), fun U hU hW => ⟨rfl, rPre_of hP hK hN hU hW⟩⟩ rfl rfl hl.1 rfl (lv_room (Nat.le_of_ble_eq_true rfl)) d_RD_takesOperator_23 ⟨Nat.zero_le _, Nat.zero_le _⟩) (fun x23 ex23 => ?_)
    refine lv_bipush (v := 40) hx hb d_RD_takesOperator_26 (by decide) ?_
    refine lv_icmp_ne (tgt := 35) hx hb d_RD_takesOperator_28 (by decide) (fun c_28 => ?_) (fun c_28 => ?_)
    · refine lv_iconst (v := 0) hx hb d_RD_takesOperator_35 (by decide) ?_
      refine lv_istore (lv' := [(4, .int 0), (3, .int x2), (0, .ref (aA G 2)), (1, .ref (tA G k 0)), (2, .int p2)]) hx hb d_RD_takesOperator_36 hl (by decide) rfl (fun ls hl => ?_)
      refine lv_iload_n hx hb d_RD_takesOperator_38 rfl (lv_at hl 1 rfl) ?_
      refine lv_iload hx hb d_RD_takesOperator_39 (lv_at hl 0 rfl) ?_
      refine lv_if_eq (tgt := 49) hx hb d_RD_takesOperator_41 (by decide) (fun c_41 => ?_) (fun c_41 => ?_)
      · refine lv_aload_n hx hb d_RD_takesOperator_49 rfl (lv_at hl 2 rfl) ?_
        refine va_get (D := D) (ci := 2) (v := .int (S.2 2 4)) (C := R_RD) (T := T_RD) (N := 8) hx hb hts (fun w h => List.mem_cons_of_mem _ (in_RD w h)) hown hK hP 2 (w_2 G S) rfl 4 (by decide) (hts _ (List.mem_cons_of_mem _ kw52)) (fun _ h9 => h9) rfl d_RD_takesOperator_50 ?_
        refine lv_icmp_eq (tgt := 58) hx hb d_RD_takesOperator_53 (by decide) (fun c_53 => ?_) (fun c_53 => ?_)
        · refine lv_iload hx hb d_RD_takesOperator_58 (lv_at hl 0 rfl) ?_
          refine lv_if_eq (tgt := 81) hx hb d_RD_takesOperator_60 (by decide) (fun c_60 => ?_) (fun c_60 => ?_)
          · refine lv_iload_n hx hb d_RD_takesOperator_81 rfl (lv_at hl 1 rfl) ?_
            refine lv_bipush (v := 123) hx hb d_RD_takesOperator_82 (by decide) ?_
            refine lv_icmp_ne (tgt := 99) hx hb d_RD_takesOperator_84 (by decide) (fun c_84 => ?_) (fun c_84 => ?_)
            · refine lv_aload_n hx hb d_RD_takesOperator_99 rfl (lv_at hl 2 rfl) ?_
              refine lv_iconst (v := 2) hx hb d_RD_takesOperator_100 (by decide) ?_
              refine cq_i (va_runV (As := [.int 2]) (rest := []) ⟨hx, hb, hml, hown, hts⟩ (c_RD_expects l D G S _ 2 N hI) (cwV 1 hts (gV kw179 kw180 kw628 kw3 kw181) rfl rfl rfl (by decide +kernel) ⟨by show (0 : Nat) + 1 ≤ 3; omega, by show 8 + (2 + 11) + 0 ≤ 64; omega⟩) ⟨blindC, va_recv (ci := 2) (q0 := 2) hK hP rfl (w_2 G S), fun U hU hW => ⟨rfl, cPre_of hP hK hD hN hU hW⟩⟩ rfl rfl hl.1 rfl (lv_room (Nat.le_of_ble_eq_true rfl)) d_RD_takesOperator_101 ⟨Nat.zero_le _, Nat.zero_le _⟩) hD hS hA (fun x101 S101 H locs hw hP hD hS => ?_)
              obtain ⟨hw, hI, bx101⟩ := hw
              have ex101 : x101 = (f_RD_expects S 2).1 := congrArg Prod.fst hw
              have eS101 : S101 = (f_RD_expects S 2).2 := congrArg Prod.snd hw
              clear hw
              exact W.zret (v := x101) hx hb hr (bl_nar bx101) (fun t ht hW => ⟨⟨x101, S101, rfl, ⟨by subst eS101; subst ex101; subst ex23; subst ex7; subst ex2; simp only [f_RD_takesOperator, if_pos c_11, if_neg c_28, if_pos c_53, if_neg c_84], hI, bx101⟩, by rw [ht]; exact hP, hD⟩, hS.F ht⟩) hS.2.2 d_RD_takesOperator_104
            · refine lv_aload_n hx hb d_RD_takesOperator_87 rfl (lv_at hl 2 rfl) ?_
              refine lv_aload_n hx hb d_RD_takesOperator_88 rfl (lv_at hl 2 rfl) ?_
              refine va_get (D := D) (ci := 2) (v := .int (S.2 2 3)) (C := R_RD) (T := T_RD) (N := 8) hx hb hts (fun w h => List.mem_cons_of_mem _ (in_RD w h)) hown hK hP 2 (w_2 G S) rfl 3 (by decide) (hts _ (List.mem_cons_of_mem _ kw51)) (fun _ h9 => h9) rfl d_RD_takesOperator_89 ?_
              refine lv_iconst (v := 2) hx hb d_RD_takesOperator_92 (by decide) ?_
              refine cq_i (va_runV (As := [.int (S.2 2 3), .int 2]) (rest := []) ⟨hx, hb, hml, hown, hts⟩ (c_RD_opens l D G S _ (S.2 2 3) 2 N hI) (cwV 2 hts (gV kw182 kw183 kw629 kw3 kw184) rfl rfl rfl (by decide +kernel) ⟨by show (1 : Nat) + 1 ≤ 3; omega, by show 8 + (3 + 11) + 21 ≤ 64; omega⟩) ⟨blindC, va_recv (ci := 2) (q0 := 2) hK hP rfl (w_2 G S), fun U hU hW => ⟨rfl, cPre_of hP hK hD hN hU hW⟩⟩ rfl rfl hl.1 rfl (lv_room (Nat.le_of_ble_eq_true rfl)) d_RD_takesOperator_93 ⟨Nat.zero_le _, Nat.zero_le _⟩) hD hS hA (fun x93 S93 H locs hw hP hD hS => ?_)
              obtain ⟨hw, hI, bx93⟩ := hw
              have ex93 : x93 = (f_RD_opens S (S.2 2 3) 2).1 := congrArg Prod.fst hw
              have eS93 : S93 = (f_RD_opens S (S.2 2 3) 2).2 := congrArg Prod.snd hw
              clear hw
              refine lv_goto (tgt := 104) hx hb d_RD_takesOperator_96 (by decide) ?_
              exact W.zret (v := x93) hx hb hr (bl_nar bx93) (fun t ht hW => ⟨⟨x93, S93, rfl, ⟨by subst eS93; subst ex93; subst ex23; subst ex7; subst ex2; simp only [f_RD_takesOperator, if_pos c_11, if_neg c_28, if_pos c_53, if_pos c_84], hI, bx93⟩, by rw [ht]; exact hP, hD⟩, hS.F ht⟩) hS.2.2 d_RD_takesOperator_104
          · exact absurd c_60 (by decide)
        · refine lv_iconst (v := 0) hx hb d_RD_takesOperator_56 (by decide) ?_
          exact W.zret (v := 0) hx hb hr (bl_nar (Or.inl rfl)) (fun t ht hW => ⟨⟨0, S, rfl, ⟨by subst ex23; subst ex7; subst ex2; simp only [f_RD_takesOperator, if_pos c_11, if_neg c_28, if_neg c_53], hI, (Or.inl rfl)⟩, by rw [ht]; exact hP, hD⟩, hS.F ht⟩) hS.2.2 d_RD_takesOperator_57
      · exact absurd c_41 (by decide)
    · refine lv_iconst (v := 1) hx hb d_RD_takesOperator_31 (by decide) ?_
      refine lv_goto (tgt := 36) hx hb d_RD_takesOperator_32 (by decide) ?_
      refine lv_istore (lv' := [(4, .int 1), (3, .int x2), (0, .ref (aA G 2)), (1, .ref (tA G k 0)), (2, .int p2)]) hx hb d_RD_takesOperator_36 hl (by decide) rfl (fun ls hl => ?_)
      refine lv_iload_n hx hb d_RD_takesOperator_38 rfl (lv_at hl 1 rfl) ?_
      refine lv_iload hx hb d_RD_takesOperator_39 (lv_at hl 0 rfl) ?_
      refine lv_if_eq (tgt := 49) hx hb d_RD_takesOperator_41 (by decide) (fun c_41 => ?_) (fun c_41 => ?_)
      · exact absurd c_41 (by decide)
      · refine lv_bipush (v := 41) hx hb d_RD_takesOperator_44 (by decide) ?_
        refine lv_goto (tgt := 53) hx hb d_RD_takesOperator_46 (by decide) ?_
        refine lv_icmp_eq (tgt := 58) hx hb d_RD_takesOperator_53 (by decide) (fun c_53 => ?_) (fun c_53 => ?_)
        · refine lv_iload hx hb d_RD_takesOperator_58 (lv_at hl 0 rfl) ?_
          refine lv_if_eq (tgt := 81) hx hb d_RD_takesOperator_60 (by decide) (fun c_60 => ?_) (fun c_60 => ?_)
          · exact absurd c_60 (by decide)
          · refine lv_aload_n hx hb d_RD_takesOperator_63 rfl (lv_at hl 2 rfl) ?_
            refine lv_dup hx hb d_RD_takesOperator_64 rfl ?_
            refine va_get (D := D) (ci := 2) (v := .int (S.2 2 1)) (C := R_RD) (T := T_RD) (N := 8) hx hb hts (fun w h => List.mem_cons_of_mem _ (in_RD w h)) hown hK hP 2 (w_2 G S) rfl 1 (by decide) (hts _ (List.mem_cons_of_mem _ kw49)) (fun _ h9 => h9) rfl d_RD_takesOperator_65 ?_
            refine lv_iconst (v := 1) hx hb d_RD_takesOperator_68 (by decide) ?_
            refine lv_isub hx hb d_RD_takesOperator_69 ?_
            refine lv_topi (fun x69 ex69 => ?_)
            refine va_putE (D := D) (ci := 2) (v := .int x69) (ty := .int) (C := R_RD) (T := T_RD) (N := 8) hx hb hts (fun w h => List.mem_cons_of_mem _ (in_RD w h)) t_RD t_RD_ok n_RD hown hK hP hD hS 2 (w_2 G S) rfl 1 (by decide) (hts _ (List.mem_cons_of_mem _ kw49)) (fun _ h9 => h9) rfl (by decide +kernel) rfl rfl (Nat.le_of_ble_eq_true rfl) (wst_2_1 G S x69) d_RD_takesOperator_70 (fun H locs hP hD hS => ?_)
            obtain ⟨S70, eS70⟩ : ∃ y : CS, y = stR S 2 1 x69 := ⟨_, rfl⟩
            rw [← eS70] at hP hD
            have hI : IC N S70 := by rw [eS70]; exact (have q := rd_m hI (lo_pos (by rw [← ex23]; exact c_28)); IC_rd hI _ (by rw [ex69]; exact q.1) (by rw [ex69]; exact Int.le_of_lt q.2))
            refine lv_aload_n hx hb d_RD_takesOperator_73 rfl (lv_at hl 2 rfl) ?_
            refine lv_aload_n hx hb d_RD_takesOperator_74 rfl (lv_at hl 3 rfl) ?_
            refine lv_bipush (v := 8) hx hb d_RD_takesOperator_75 (by decide) ?_
            refine cq_i (va_runV (As := [.ref (tA G k 0), .int 8]) (rest := []) ⟨hx, hb, hml, hown, hts⟩ (c_RD_endsOperand l D G S70 _ k 8 N hI hk) (cwV 2 hts (gV kw216 kw217 kw634 kw3 kw218) rfl rfl rfl (by decide +kernel) ⟨by show (2 : Nat) + 1 ≤ 3; omega, by show 8 + (3 + 11) + 42 ≤ 64; omega⟩) ⟨blindC, va_recv (ci := 2) (q0 := 2) hK hP rfl (w_2 G S70), fun U hU hW => ⟨rfl, cPre_of hP hK hD hN hU hW⟩⟩ rfl rfl hl.1 rfl (lv_room (Nat.le_of_ble_eq_true rfl)) d_RD_takesOperator_77 ⟨Nat.zero_le _, Nat.zero_le _⟩) hD hS hA (fun x77 S77 H locs hw hP hD hS => ?_)
            obtain ⟨hw, hI, bx77⟩ := hw
            have ex77 : x77 = (f_RD_endsOperand S70 k 8).1 := congrArg Prod.fst hw
            have eS77 : S77 = (f_RD_endsOperand S70 k 8).2 := congrArg Prod.snd hw
            clear hw
            exact W.zret (v := x77) hx hb hr (bl_nar bx77) (fun t ht hW => ⟨⟨x77, S77, rfl, ⟨by subst eS77; subst ex77; subst eS70; subst ex69; subst ex23; subst ex7; subst ex2; simp only [f_RD_takesOperator, if_pos c_11, if_pos c_28, if_pos c_53], hI, bx77⟩, by rw [ht]; exact hP, hD⟩, hS.F ht⟩) hS.2.2 d_RD_takesOperator_80
        · refine lv_iconst (v := 0) hx hb d_RD_takesOperator_56 (by decide) ?_
          exact W.zret (v := 0) hx hb hr (bl_nar (Or.inl rfl)) (fun t ht hW => ⟨⟨0, S, rfl, ⟨by subst ex23; subst ex7; subst ex2; simp only [f_RD_takesOperator, if_pos c_11, if_pos c_28, if_neg c_53], hI, (Or.inl rfl)⟩, by rw [ht]; exact hP, hD⟩, hS.F ht⟩) hS.2.2 d_RD_takesOperator_57
  · refine lv_aload_n hx hb d_RD_takesOperator_14 rfl (lv_at hl 1 rfl) ?_
    refine lv_bipush (v := 6) hx hb d_RD_takesOperator_15 (by decide) ?_
    refine cq_i (va_runV (As := [.int 6]) (rest := []) ⟨hx, hb, hml, hown, hts⟩ (c_RD_expects l D G S _ 6 N hI) (cwV 1 hts (gV kw179 kw180 kw628 kw3 kw181) rfl rfl rfl (by decide +kernel) ⟨by show (0 : Nat) + 1 ≤ 3; omega, by show 8 + (2 + 11) + 0 ≤ 64; omega⟩) ⟨blindC, va_recv (ci := 2) (q0 := 2) hK hP rfl (w_2 G S), fun U hU hW => ⟨rfl, cPre_of hP hK hD hN hU hW⟩⟩ rfl rfl hl.1 rfl (lv_room (Nat.le_of_ble_eq_true rfl)) d_RD_takesOperator_17 ⟨Nat.zero_le _, Nat.zero_le _⟩) hD hS hA (fun x17 S17 H locs hw hP hD hS => ?_)
    obtain ⟨hw, hI, bx17⟩ := hw
    have ex17 : x17 = (f_RD_expects S 6).1 := congrArg Prod.fst hw
    have eS17 : S17 = (f_RD_expects S 6).2 := congrArg Prod.snd hw
    clear hw
    exact W.zret (v := x17) hx hb hr (bl_nar bx17) (fun t ht hW => ⟨⟨x17, S17, rfl, ⟨by subst eS17; subst ex17; subst ex7; subst ex2; simp only [f_RD_takesOperator, if_neg c_11], hI, bx17⟩, by rw [ht]; exact hP, hD⟩, hS.F ht⟩) hS.2.2 d_RD_takesOperator_20
set_option maxHeartbeats 4000000 in
set_option maxRecDepth 100000 in
theorem c_RD_takes (l : Launch) (D : va_G) (G : GP) (S : CS) (sz : Nat) (k : Nat) (p2 : Int32) (N : Nat) (hI : IC N S) (hk : k < 3) : Met l y_RD_takes ws_RD_takes ({ frames := 4, cells := 0, slots := 0, locals := 91 }) (va_Pc [.ref (aA G 2), .ref (tA G k 0), .int p2] (cPre D G S sz)) (va_Qi (fun (r : Int32) (S' : CS) => (r, S') = f_RD_takes S k p2 ∧ IC N S' ∧ bl r) (wB D G (va_A (wC G S) sz)) (va_A (wC G S) sz)) 0 0 (va_A (wC G S) sz) := by
  refine Met.ofW (cc := b_RD_takes) (maxL := 4) (ret := (some .boolean)) (by decide) rfl ?_
  intro p e s m args below meth c s₁ B hml hv
  obtain ⟨rfl, hsz, hP, hK, hD0, hN⟩ := hv
  have hx := B.exec
  have hb := B.bytes
  have hr := B.returns
  have hts := atoms_spec (ws := ws_RD_takes) B.pre
  have hown : s.vm.findClass R_RD = some m.cls := findClass_of_methodNamed B.named
  have hlocks := B.notSynchronized
  subst hsz
  have hD := hD0.self (sz := s.heap.size)
  generalize hAe : va_A (wC G S) s.heap.size = A at hD ⊢
  have hA : ∀ q : Nat, s.heap.size ≤ q → A q := fun q h => by rw [← hAe]; exact Or.inr h
  have hS : va_S A s.heap s.heap [] := va_S.rf
  have hl := lv_entry ([.ref (aA G 2), .ref (tA G k 0), .int p2]) (n := 4) (Nat.le_of_ble_eq_true rfl)
  rw [lg_entry_eq]
  generalize (lg_sl ([.ref (aA G 2), .ref (tA G k 0), .int p2]) ++ List.replicate (4 - (lg_sl ([.ref (aA G 2), .ref (tA G k 0), .int p2])).length) Slot.unset).toArray = ls at hl ⊢
  have hl : lv_has ls 4 [(0, .ref (aA G 2)), (1, .ref (tA G k 0)), (2, .int p2)] := hl
  refine lv_aload_n hx hb d_RD_takes_0 rfl (lv_at hl 1 rfl) ?_
  refine lv_iload_n hx hb d_RD_takes_1 rfl (lv_at hl 2 rfl) ?_
  refine vp_callSi (W.runV (As := [.int p2]) (rest := []) ⟨hx, hb, hml, hown, hts⟩ (c_MT_signAt l D G S k p2 N hI hk) (cwV 1 hts (gV kw159 kw160 kw161 kw2 kw162) rfl rfl rfl (by decide +kernel) ⟨by show (0 : Nat) + 1 ≤ 4; omega, by show 8 + (2 + 11) + 0 ≤ 91; omega⟩) ⟨blindR, va_recv (ci := 1) (q0 := 13 + 7 * k) hK hP rfl (wt_0 G S hk), fun U hU hW => ⟨rfl, rPre_of hP hK hN hU hW⟩⟩ rfl rfl hl.1 rfl (lv_room (Nat.le_of_ble_eq_true rfl)) d_RD_takes_2 ⟨Nat.zero_le _, Nat.zero_le _⟩) (fun x2 ex2 => ?_)
  refine lv_istore_n (lv' := [(3, .int x2), (0, .ref (aA G 2)), (1, .ref (tA G k 0)), (2, .int p2)]) hx hb d_RD_takes_5 rfl hl (by decide) rfl (fun ls hl => ?_)
  refine lv_aload_n hx hb d_RD_takes_6 rfl (lv_at hl 1 rfl) ?_
  refine va_get (D := D) (ci := 2) (v := .int (S.2 2 2)) (C := R_RD) (T := T_RD) (N := 8) hx hb hts (fun w h => List.mem_cons_of_mem _ (in_RD w h)) hown hK hP 2 (w_2 G S) rfl 2 (by decide) (hts _ (List.mem_cons_of_mem _ kw50)) (fun _ h9 => h9) rfl d_RD_takes_7 ?_
  refine lv_topi (fun x10 ex10 => ?_)
  by_cases c_10_0 : x10 = 0
  · refine lv_tableIn (tgt := 56) hx hb d_RD_takes_10 (by rw [c_10_0]; decide) (by rw [c_10_0]; decide) (by rw [c_10_0]; first | done | rfl) (by decide) ?_
    refine lv_aload_n hx hb d_RD_takes_56 rfl (lv_at hl 1 rfl) ?_
    refine lv_aload_n hx hb d_RD_takes_57 rfl (lv_at hl 2 rfl) ?_
    refine lv_iload_n hx hb d_RD_takes_58 rfl (lv_at hl 3 rfl) ?_
    refine cq_i (va_runV (As := [.ref (tA G k 0), .int p2]) (rest := []) ⟨hx, hb, hml, hown, hts⟩ (c_RD_takesProcedure l D G S _ k p2 N hI hk) (cwV 2 hts (gV kw163 kw164 kw626 kw3 kw165) rfl rfl rfl (by decide +kernel) ⟨by show (2 : Nat) + 1 ≤ 4; omega, by show 8 + (4 + 11) + 43 ≤ 91; omega⟩) ⟨blindC, va_recv (ci := 2) (q0 := 2) hK hP rfl (w_2 G S), fun U hU hW => ⟨rfl, cPre_of hP hK hD hN hU hW⟩⟩ rfl rfl hl.1 rfl (lv_room (Nat.le_of_ble_eq_true rfl)) d_RD_takes_59 ⟨Nat.zero_le _, Nat.zero_le _⟩) hD hS hA (fun x59 S59 H locs hw hP hD hS => ?_)
    obtain ⟨hw, hI, bx59⟩ := hw
    have ex59 : x59 = (f_RD_takesProcedure S k p2).1 := congrArg Prod.fst hw
    have eS59 : S59 = (f_RD_takesProcedure S k p2).2 := congrArg Prod.snd hw
    clear hw
    exact W.zret (v := x59) hx hb hr (bl_nar bx59) (fun t ht hW => ⟨⟨x59, S59, rfl, ⟨by subst eS59; subst ex59; subst ex10; subst ex2; simp only [f_RD_takes, if_pos c_10_0], hI, bx59⟩, by rw [ht]; exact hP, hD⟩, hS.F ht⟩) hS.2.2 d_RD_takes_62
  by_cases c_10_1 : x10 = 1
  · refine lv_tableIn (tgt := 63) hx hb d_RD_takes_10 (by rw [c_10_1]; decide) (by rw [c_10_1]; decide) (by rw [c_10_1]; first | done | rfl) (by decide) ?_
    refine lv_iload_n hx hb d_RD_takes_63 rfl (lv_at hl 0 rfl) ?_
    refine lv_bipush (v := 123) hx hb d_RD_takes_64 (by decide) ?_
    refine lv_icmp_ne (tgt := 85) hx hb d_RD_takes_66 (by decide) (fun c_66 => ?_) (fun c_66 => ?_)
    · refine lv_iconst (v := 0) hx hb d_RD_takes_85 (by decide) ?_
      exact W.zret (v := 0) hx hb hr (bl_nar (Or.inl rfl)) (fun t ht hW => ⟨⟨0, S, rfl, ⟨by subst ex10; subst ex2; simp only [f_RD_takes, if_neg c_10_0, if_pos c_10_1, if_neg c_66], hI, (Or.inl rfl)⟩, by rw [ht]; exact hP, hD⟩, hS.F ht⟩) hS.2.2 d_RD_takes_86
    · refine lv_aload_n hx hb d_RD_takes_69 rfl (lv_at hl 1 rfl) ?_
      refine lv_aload_n hx hb d_RD_takes_70 rfl (lv_at hl 1 rfl) ?_
      refine va_get (D := D) (ci := 2) (v := .int (S.2 2 3)) (C := R_RD) (T := T_RD) (N := 8) hx hb hts (fun w h => List.mem_cons_of_mem _ (in_RD w h)) hown hK hP 2 (w_2 G S) rfl 3 (by decide) (hts _ (List.mem_cons_of_mem _ kw51)) (fun _ h9 => h9) rfl d_RD_takes_71 ?_
      refine lv_iconst (v := 2) hx hb d_RD_takes_74 (by decide) ?_
      refine cq_i (va_runV (As := [.int (S.2 2 3), .int 2]) (rest := []) ⟨hx, hb, hml, hown, hts⟩ (c_RD_opens l D G S _ (S.2 2 3) 2 N hI) (cwV 2 hts (gV kw182 kw183 kw629 kw3 kw184) rfl rfl rfl (by decide +kernel) ⟨by show (1 : Nat) + 1 ≤ 4; omega, by show 8 + (3 + 11) + 21 ≤ 91; omega⟩) ⟨blindC, va_recv (ci := 2) (q0 := 2) hK hP rfl (w_2 G S), fun U hU hW => ⟨rfl, cPre_of hP hK hD hN hU hW⟩⟩ rfl rfl hl.1 rfl (lv_room (Nat.le_of_ble_eq_true rfl)) d_RD_takes_75 ⟨Nat.zero_le _, Nat.zero_le _⟩) hD hS hA (fun x75 S75 H locs hw hP hD hS => ?_)
      obtain ⟨hw, hI, bx75⟩ := hw
      have ex75 : x75 = (f_RD_opens S (S.2 2 3) 2).1 := congrArg Prod.fst hw
      have eS75 : S75 = (f_RD_opens S (S.2 2 3) 2).2 := congrArg Prod.snd hw
      clear hw
      refine lv_if_eq (tgt := 85) hx hb d_RD_takes_78 (by decide) (fun c_78 => ?_) (fun c_78 => ?_)
      · refine lv_iconst (v := 0) hx hb d_RD_takes_85 (by decide) ?_
        exact W.zret (v := 0) hx hb hr (bl_nar (Or.inl rfl)) (fun t ht hW => ⟨⟨0, S75, rfl, ⟨by subst eS75; subst ex75; subst ex10; subst ex2; simp only [f_RD_takes, if_neg c_10_0, if_pos c_10_1, if_pos c_66, if_pos c_78], hI, (Or.inl rfl)⟩, by rw [ht]; exact hP, hD⟩, hS.F ht⟩) hS.2.2 d_RD_takes_86
      · refine lv_iconst (v := 1) hx hb d_RD_takes_81 (by decide) ?_
        refine lv_goto (tgt := 86) hx hb d_RD_takes_82 (by decide) ?_
        exact W.zret (v := 1) hx hb hr (bl_nar (Or.inr rfl)) (fun t ht hW => ⟨⟨1, S75, rfl, ⟨by subst eS75; subst ex75; subst ex10; subst ex2; simp only [f_RD_takes, if_neg c_10_0, if_pos c_10_1, if_pos c_66, if_neg c_78], hI, (Or.inr rfl)⟩, by rw [ht]; exact hP, hD⟩, hS.F ht⟩) hS.2.2 d_RD_takes_86
  by_cases c_10_2 : x10 = 2
  · refine lv_tableIn (tgt := 87) hx hb d_RD_takes_10 (by rw [c_10_2]; decide) (by rw [c_10_2]; decide) (by rw [c_10_2]; first | done | rfl) (by decide) ?_
    refine lv_aload_n hx hb d_RD_takes_87 rfl (lv_at hl 1 rfl) ?_
    refine lv_aload_n hx hb d_RD_takes_88 rfl (lv_at hl 2 rfl) ?_
    refine lv_iload_n hx hb d_RD_takes_89 rfl (lv_at hl 3 rfl) ?_
    refine cq_i (va_runV (As := [.ref (tA G k 0), .int p2]) (rest := []) ⟨hx, hb, hml, hown, hts⟩ (c_RD_takesStatement l D G S _ k p2 N hI hk) (cwV 2 hts (gV kw185 kw186 kw630 kw3 kw187) rfl rfl rfl (by decide +kernel) ⟨by show (3 : Nat) + 1 ≤ 4; omega, by show 8 + (5 + 11) + 67 ≤ 91; omega⟩) ⟨blindC, va_recv (ci := 2) (q0 := 2) hK hP rfl (w_2 G S), fun U hU hW => ⟨rfl, cPre_of hP hK hD hN hU hW⟩⟩ rfl rfl hl.1 rfl (lv_room (Nat.le_of_ble_eq_true rfl)) d_RD_takes_90 ⟨Nat.zero_le _, Nat.zero_le _⟩) hD hS hA (fun x90 S90 H locs hw hP hD hS => ?_)
    obtain ⟨hw, hI, bx90⟩ := hw
    have ex90 : x90 = (f_RD_takesStatement S k p2).1 := congrArg Prod.fst hw
    have eS90 : S90 = (f_RD_takesStatement S k p2).2 := congrArg Prod.snd hw
    clear hw
    exact W.zret (v := x90) hx hb hr (bl_nar bx90) (fun t ht hW => ⟨⟨x90, S90, rfl, ⟨by subst eS90; subst ex90; subst ex10; subst ex2; simp only [f_RD_takes, if_neg c_10_0, if_neg c_10_1, if_pos c_10_2], hI, bx90⟩, by rw [ht]; exact hP, hD⟩, hS.F ht⟩) hS.2.2 d_RD_takes_93
  by_cases c_10_3 : x10 = 3
  · refine lv_tableIn (tgt := 94) hx hb d_RD_takes_10 (by rw [c_10_3]; decide) (by rw [c_10_3]; decide) (by rw [c_10_3]; first | done | rfl) (by decide) ?_
    refine lv_iload_n hx hb d_RD_takes_94 rfl (lv_at hl 0 rfl) ?_
    refine lv_bipush (v := 58) hx hb d_RD_takes_95 (by decide) ?_
    refine lv_icmp_ne (tgt := 109) hx hb d_RD_takes_97 (by decide) (fun c_97 => ?_) (fun c_97 => ?_)
    · refine lv_aload_n hx hb d_RD_takes_109 rfl (lv_at hl 1 rfl) ?_
      refine lv_aload_n hx hb d_RD_takes_110 rfl (lv_at hl 2 rfl) ?_
      refine lv_iload_n hx hb d_RD_takes_111 rfl (lv_at hl 3 rfl) ?_
      refine cq_i (va_runV (As := [.ref (tA G k 0), .int p2]) (rest := []) ⟨hx, hb, hml, hown, hts⟩ (c_RD_takesStatement l D G S _ k p2 N hI hk) (cwV 2 hts (gV kw185 kw186 kw630 kw3 kw187) rfl rfl rfl (by decide +kernel) ⟨by show (3 : Nat) + 1 ≤ 4; omega, by show 8 + (5 + 11) + 67 ≤ 91; omega⟩) ⟨blindC, va_recv (ci := 2) (q0 := 2) hK hP rfl (w_2 G S), fun U hU hW => ⟨rfl, cPre_of hP hK hD hN hU hW⟩⟩ rfl rfl hl.1 rfl (lv_room (Nat.le_of_ble_eq_true rfl)) d_RD_takes_112 ⟨Nat.zero_le _, Nat.zero_le _⟩) hD hS hA (fun x112 S112 H locs hw hP hD hS => ?_)
      obtain ⟨hw, hI, bx112⟩ := hw
      have ex112 : x112 = (f_RD_takesStatement S k p2).1 := congrArg Prod.fst hw
      have eS112 : S112 = (f_RD_takesStatement S k p2).2 := congrArg Prod.snd hw
      clear hw
      exact W.zret (v := x112) hx hb hr (bl_nar bx112) (fun t ht hW => ⟨⟨x112, S112, rfl, ⟨by subst eS112; subst ex112; subst ex10; subst ex2; simp only [f_RD_takes, if_neg c_10_0, if_neg c_10_1, if_neg c_10_2, if_pos c_10_3, if_neg c_97], hI, bx112⟩, by rw [ht]; exact hP, hD⟩, hS.F ht⟩) hS.2.2 d_RD_takes_115
    · refine lv_aload_n hx hb d_RD_takes_100 rfl (lv_at hl 1 rfl) ?_
      refine lv_iload_n hx hb d_RD_takes_101 rfl (lv_at hl 3 rfl) ?_
      refine lv_iconst (v := 1) hx hb d_RD_takes_102 (by decide) ?_
      refine cq_i (va_runV (As := [.int p2, .int 1]) (rest := []) ⟨hx, hb, hml, hown, hts⟩ (c_RD_begins l D G S _ p2 1 N hI) (cwV 2 hts (gV kw176 kw177 kw627 kw3 kw178) rfl rfl rfl (by decide +kernel) ⟨by show (1 : Nat) + 1 ≤ 4; omega, by show 8 + (3 + 11) + 21 ≤ 91; omega⟩) ⟨blindC, va_recv (ci := 2) (q0 := 2) hK hP rfl (w_2 G S), fun U hU hW => ⟨rfl, cPre_of hP hK hD hN hU hW⟩⟩ rfl rfl hl.1 rfl (lv_room (Nat.le_of_ble_eq_true rfl)) d_RD_takes_103 ⟨Nat.zero_le _, Nat.zero_le _⟩) hD hS hA (fun x103 S103 H locs hw hP hD hS => ?_)
      obtain ⟨hw, hI, bx103⟩ := hw
      have ex103 : x103 = (f_RD_begins S p2 1).1 := congrArg Prod.fst hw
      have eS103 : S103 = (f_RD_begins S p2 1).2 := congrArg Prod.snd hw
      clear hw
      refine lv_goto (tgt := 115) hx hb d_RD_takes_106 (by decide) ?_
      exact W.zret (v := x103) hx hb hr (bl_nar bx103) (fun t ht hW => ⟨⟨x103, S103, rfl, ⟨by subst eS103; subst ex103; subst ex10; subst ex2; simp only [f_RD_takes, if_neg c_10_0, if_neg c_10_1, if_neg c_10_2, if_pos c_10_3, if_pos c_97], hI, bx103⟩, by rw [ht]; exact hP, hD⟩, hS.F ht⟩) hS.2.2 d_RD_takes_115
  by_cases c_10_4 : x10 = 4
  · refine lv_tableIn (tgt := 116) hx hb d_RD_takes_10 (by rw [c_10_4]; decide) (by rw [c_10_4]; decide) (by rw [c_10_4]; first | done | rfl) (by decide) ?_
    refine lv_iload_n hx hb d_RD_takes_116 rfl (lv_at hl 0 rfl) ?_
    refine lv_bipush (v := 61) hx hb d_RD_takes_117 (by decide) ?_
    refine lv_icmp_ne (tgt := 135) hx hb d_RD_takes_119 (by decide) (fun c_119 => ?_) (fun c_119 => ?_)
    · refine lv_iconst (v := 0) hx hb d_RD_takes_135 (by decide) ?_
      exact W.zret (v := 0) hx hb hr (bl_nar (Or.inl rfl)) (fun t ht hW => ⟨⟨0, S, rfl, ⟨by subst ex10; subst ex2; simp only [f_RD_takes, if_neg c_10_0, if_neg c_10_1, if_neg c_10_2, if_neg c_10_3, if_pos c_10_4, if_neg c_119], hI, (Or.inl rfl)⟩, by rw [ht]; exact hP, hD⟩, hS.F ht⟩) hS.2.2 d_RD_takes_136
    · refine lv_aload_n hx hb d_RD_takes_122 rfl (lv_at hl 1 rfl) ?_
      refine lv_bipush (v := 6) hx hb d_RD_takes_123 (by decide) ?_
      refine cq_i (va_runV (As := [.int 6]) (rest := []) ⟨hx, hb, hml, hown, hts⟩ (c_RD_expects l D G S _ 6 N hI) (cwV 1 hts (gV kw179 kw180 kw628 kw3 kw181) rfl rfl rfl (by decide +kernel) ⟨by show (0 : Nat) + 1 ≤ 4; omega, by show 8 + (2 + 11) + 0 ≤ 91; omega⟩) ⟨blindC, va_recv (ci := 2) (q0 := 2) hK hP rfl (w_2 G S), fun U hU hW => ⟨rfl, cPre_of hP hK hD hN hU hW⟩⟩ rfl rfl hl.1 rfl (lv_room (Nat.le_of_ble_eq_true rfl)) d_RD_takes_125 ⟨Nat.zero_le _, Nat.zero_le _⟩) hD hS hA (fun x125 S125 H locs hw hP hD hS => ?_)
      obtain ⟨hw, hI, bx125⟩ := hw
      have ex125 : x125 = (f_RD_expects S 6).1 := congrArg Prod.fst hw
      have eS125 : S125 = (f_RD_expects S 6).2 := congrArg Prod.snd hw
      clear hw
      refine lv_if_eq (tgt := 135) hx hb d_RD_takes_128 (by decide) (fun c_128 => ?_) (fun c_128 => ?_)
      · refine lv_iconst (v := 0) hx hb d_RD_takes_135 (by decide) ?_
        exact W.zret (v := 0) hx hb hr (bl_nar (Or.inl rfl)) (fun t ht hW => ⟨⟨0, S125, rfl, ⟨by subst eS125; subst ex125; subst ex10; subst ex2; simp only [f_RD_takes, if_neg c_10_0, if_neg c_10_1, if_neg c_10_2, if_neg c_10_3, if_pos c_10_4, if_pos c_119, if_pos c_128], hI, (Or.inl rfl)⟩, by rw [ht]; exact hP, hD⟩, hS.F ht⟩) hS.2.2 d_RD_takes_136
      · refine lv_iconst (v := 1) hx hb d_RD_takes_131 (by decide) ?_
        refine lv_goto (tgt := 136) hx hb d_RD_takes_132 (by decide) ?_
        exact W.zret (v := 1) hx hb hr (bl_nar (Or.inr rfl)) (fun t ht hW => ⟨⟨1, S125, rfl, ⟨by subst eS125; subst ex125; subst ex10; subst ex2; simp only [f_RD_takes, if_neg c_10_0, if_neg c_10_1, if_neg c_10_2, if_neg c_10_3, if_pos c_10_4, if_pos c_119, if_neg c_128], hI, (Or.inr rfl)⟩, by rw [ht]; exact hP, hD⟩, hS.F ht⟩) hS.2.2 d_RD_takes_136
  by_cases c_10_5 : x10 = 5
  · refine lv_tableIn (tgt := 137) hx hb d_RD_takes_10 (by rw [c_10_5]; decide) (by rw [c_10_5]; decide) (by rw [c_10_5]; first | done | rfl) (by decide) ?_
    refine lv_iload_n hx hb d_RD_takes_137 rfl (lv_at hl 0 rfl) ?_
    refine lv_bipush (v := 59) hx hb d_RD_takes_138 (by decide) ?_
    refine lv_icmp_ne (tgt := 155) hx hb d_RD_takes_140 (by decide) (fun c_140 => ?_) (fun c_140 => ?_)
    · refine lv_iconst (v := 0) hx hb d_RD_takes_155 (by decide) ?_
      exact W.zret (v := 0) hx hb hr (bl_nar (Or.inl rfl)) (fun t ht hW => ⟨⟨0, S, rfl, ⟨by subst ex10; subst ex2; simp only [f_RD_takes, if_neg c_10_0, if_neg c_10_1, if_neg c_10_2, if_neg c_10_3, if_neg c_10_4, if_pos c_10_5, if_neg c_140], hI, (Or.inl rfl)⟩, by rw [ht]; exact hP, hD⟩, hS.F ht⟩) hS.2.2 d_RD_takes_156
    · refine lv_aload_n hx hb d_RD_takes_143 rfl (lv_at hl 1 rfl) ?_
      refine lv_iconst (v := 2) hx hb d_RD_takes_144 (by decide) ?_
      refine cq_i (va_runV (As := [.int 2]) (rest := []) ⟨hx, hb, hml, hown, hts⟩ (c_RD_expects l D G S _ 2 N hI) (cwV 1 hts (gV kw179 kw180 kw628 kw3 kw181) rfl rfl rfl (by decide +kernel) ⟨by show (0 : Nat) + 1 ≤ 4; omega, by show 8 + (2 + 11) + 0 ≤ 91; omega⟩) ⟨blindC, va_recv (ci := 2) (q0 := 2) hK hP rfl (w_2 G S), fun U hU hW => ⟨rfl, cPre_of hP hK hD hN hU hW⟩⟩ rfl rfl hl.1 rfl (lv_room (Nat.le_of_ble_eq_true rfl)) d_RD_takes_145 ⟨Nat.zero_le _, Nat.zero_le _⟩) hD hS hA (fun x145 S145 H locs hw hP hD hS => ?_)
      obtain ⟨hw, hI, bx145⟩ := hw
      have ex145 : x145 = (f_RD_expects S 2).1 := congrArg Prod.fst hw
      have eS145 : S145 = (f_RD_expects S 2).2 := congrArg Prod.snd hw
      clear hw
      refine lv_if_eq (tgt := 155) hx hb d_RD_takes_148 (by decide) (fun c_148 => ?_) (fun c_148 => ?_)
      · refine lv_iconst (v := 0) hx hb d_RD_takes_155 (by decide) ?_
        exact W.zret (v := 0) hx hb hr (bl_nar (Or.inl rfl)) (fun t ht hW => ⟨⟨0, S145, rfl, ⟨by subst eS145; subst ex145; subst ex10; subst ex2; simp only [f_RD_takes, if_neg c_10_0, if_neg c_10_1, if_neg c_10_2, if_neg c_10_3, if_neg c_10_4, if_pos c_10_5, if_pos c_140, if_pos c_148], hI, (Or.inl rfl)⟩, by rw [ht]; exact hP, hD⟩, hS.F ht⟩) hS.2.2 d_RD_takes_156
      · refine lv_iconst (v := 1) hx hb d_RD_takes_151 (by decide) ?_
        refine lv_goto (tgt := 156) hx hb d_RD_takes_152 (by decide) ?_
        exact W.zret (v := 1) hx hb hr (bl_nar (Or.inr rfl)) (fun t ht hW => ⟨⟨1, S145, rfl, ⟨by subst eS145; subst ex145; subst ex10; subst ex2; simp only [f_RD_takes, if_neg c_10_0, if_neg c_10_1, if_neg c_10_2, if_neg c_10_3, if_neg c_10_4, if_pos c_10_5, if_pos c_140, if_neg c_148], hI, (Or.inr rfl)⟩, by rw [ht]; exact hP, hD⟩, hS.F ht⟩) hS.2.2 d_RD_takes_156
  by_cases c_10_6 : x10 = 6
  · refine lv_tableIn (tgt := 157) hx hb d_RD_takes_10 (by rw [c_10_6]; decide) (by rw [c_10_6]; decide) (by rw [c_10_6]; first | done | rfl) (by decide) ?_
    refine lv_aload_n hx hb d_RD_takes_157 rfl (lv_at hl 1 rfl) ?_
    refine lv_aload_n hx hb d_RD_takes_158 rfl (lv_at hl 2 rfl) ?_
    refine lv_iload_n hx hb d_RD_takes_159 rfl (lv_at hl 3 rfl) ?_
    refine cq_i (va_runV (As := [.ref (tA G k 0), .int p2]) (rest := []) ⟨hx, hb, hml, hown, hts⟩ (c_RD_takesOperand l D G S _ k p2 N hI hk) (cwV 2 hts (gV kw211 kw212 kw633 kw3 kw213) rfl rfl rfl (by decide +kernel) ⟨by show (3 : Nat) + 1 ≤ 4; omega, by show 8 + (4 + 11) + 64 ≤ 91; omega⟩) ⟨blindC, va_recv (ci := 2) (q0 := 2) hK hP rfl (w_2 G S), fun U hU hW => ⟨rfl, cPre_of hP hK hD hN hU hW⟩⟩ rfl rfl hl.1 rfl (lv_room (Nat.le_of_ble_eq_true rfl)) d_RD_takes_160 ⟨Nat.zero_le _, Nat.zero_le _⟩) hD hS hA (fun x160 S160 H locs hw hP hD hS => ?_)
    obtain ⟨hw, hI, bx160⟩ := hw
    have ex160 : x160 = (f_RD_takesOperand S k p2).1 := congrArg Prod.fst hw
    have eS160 : S160 = (f_RD_takesOperand S k p2).2 := congrArg Prod.snd hw
    clear hw
    exact W.zret (v := x160) hx hb hr (bl_nar bx160) (fun t ht hW => ⟨⟨x160, S160, rfl, ⟨by subst eS160; subst ex160; subst ex10; subst ex2; simp only [f_RD_takes, if_neg c_10_0, if_neg c_10_1, if_neg c_10_2, if_neg c_10_3, if_neg c_10_4, if_neg c_10_5, if_pos c_10_6], hI, bx160⟩, by rw [ht]; exact hP, hD⟩, hS.F ht⟩) hS.2.2 d_RD_takes_163
  by_cases c_10_7 : x10 = 7
  · refine lv_tableIn (tgt := 164) hx hb d_RD_takes_10 (by rw [c_10_7]; decide) (by rw [c_10_7]; decide) (by rw [c_10_7]; first | done | rfl) (by decide) ?_
    refine lv_iload_n hx hb d_RD_takes_164 rfl (lv_at hl 0 rfl) ?_
    refine vp_callSi (va_runSN (As := [.int x2]) (rest := []) ⟨hx, hb, hml, hown, hts⟩ (c_GS_isDigit l x2) ⟨va_cnB 1 hts (gW kw223) rfl rfl rfl (hN.1 (R_RD, 62, y_GS_isDigit, "GateStack") (by decide +kernel)) (hts _ (List.mem_cons_of_mem _ kw1)) (by decide +kernel) ⟨by show (0 : Nat) + 1 ≤ 4; omega, by show 8 + (1 + 11) + 0 ≤ 91; omega⟩, (hts _ (List.mem_cons_of_mem _ kw222)), trivial⟩ ⟨blindP, fun U hU hW => ⟨rfl, NW_warm hW hN⟩⟩ rfl rfl hl.1 rfl (lv_room (Nat.le_of_ble_eq_true rfl)) d_RD_takes_165 ⟨Nat.zero_le _, Nat.zero_le _⟩).run (fun x165 ex165 => ?_)
    obtain ⟨ex165, bx165⟩ := ex165
    refine lv_if_eq (tgt := 178) hx hb d_RD_takes_168 (by decide) (fun c_168 => ?_) (fun c_168 => ?_)
    · refine lv_aload_n hx hb d_RD_takes_178 rfl (lv_at hl 1 rfl) ?_
      refine lv_aload_n hx hb d_RD_takes_179 rfl (lv_at hl 2 rfl) ?_
      refine lv_iload_n hx hb d_RD_takes_180 rfl (lv_at hl 3 rfl) ?_
      refine cq_i (va_runV (As := [.ref (tA G k 0), .int p2]) (rest := []) ⟨hx, hb, hml, hown, hts⟩ (c_RD_takesOperator l D G S _ k p2 N hI hk) (cwV 2 hts (gV kw227 kw228 kw637 kw3 kw229) rfl rfl rfl (by decide +kernel) ⟨by show (3 : Nat) + 1 ≤ 4; omega, by show 8 + (5 + 11) + 64 ≤ 91; omega⟩) ⟨blindC, va_recv (ci := 2) (q0 := 2) hK hP rfl (w_2 G S), fun U hU hW => ⟨rfl, cPre_of hP hK hD hN hU hW⟩⟩ rfl rfl hl.1 rfl (lv_room (Nat.le_of_ble_eq_true rfl)) d_RD_takes_181 ⟨Nat.zero_le _, Nat.zero_le _⟩) hD hS hA (fun x181 S181 H locs hw hP hD hS => ?_)
      obtain ⟨hw, hI, bx181⟩ := hw
      have ex181 : x181 = (f_RD_takesOperator S k p2).1 := congrArg Prod.fst hw
      have eS181 : S181 = (f_RD_takesOperator S k p2).2 := congrArg Prod.snd hw
      clear hw
      exact W.zret (v := x181) hx hb hr (bl_nar bx181) (fun t ht hW => ⟨⟨x181, S181, rfl, ⟨by subst eS181; subst ex181; subst ex165; subst ex10; subst ex2; simp only [f_RD_takes, if_neg c_10_0, if_neg c_10_1, if_neg c_10_2, if_neg c_10_3, if_neg c_10_4, if_neg c_10_5, if_neg c_10_6, if_pos c_10_7, if_pos c_168], hI, bx181⟩, by rw [ht]; exact hP, hD⟩, hS.F ht⟩) hS.2.2 d_RD_takes_184
    · refine lv_aload_n hx hb d_RD_takes_171 rfl (lv_at hl 1 rfl) ?_
      refine cq_i (va_runV (As := []) (rest := []) ⟨hx, hb, hml, hown, hts⟩ (c_RD_takesDigit l D G S _ N hI) (cwV 0 hts (gV kw224 kw225 kw636 kw3 kw226) rfl rfl rfl (by decide +kernel) ⟨by show (0 : Nat) + 1 ≤ 4; omega, by show 8 + (1 + 11) + 0 ≤ 91; omega⟩) ⟨blindC, va_recv (ci := 2) (q0 := 2) hK hP rfl (w_2 G S), fun U hU hW => ⟨rfl, cPre_of hP hK hD hN hU hW⟩⟩ rfl rfl hl.1 rfl (lv_room (Nat.le_of_ble_eq_true rfl)) d_RD_takes_172 ⟨Nat.zero_le _, Nat.zero_le _⟩) hD hS hA (fun x172 S172 H locs hw hP hD hS => ?_)
      obtain ⟨hw, hI, bx172⟩ := hw
      have ex172 : x172 = (f_RD_takesDigit S).1 := congrArg Prod.fst hw
      have eS172 : S172 = (f_RD_takesDigit S).2 := congrArg Prod.snd hw
      clear hw
      refine lv_goto (tgt := 184) hx hb d_RD_takes_175 (by decide) ?_
      exact W.zret (v := x172) hx hb hr (bl_nar bx172) (fun t ht hW => ⟨⟨x172, S172, rfl, ⟨by subst eS172; subst ex172; subst ex165; subst ex10; subst ex2; simp only [f_RD_takes, if_neg c_10_0, if_neg c_10_1, if_neg c_10_2, if_neg c_10_3, if_neg c_10_4, if_neg c_10_5, if_neg c_10_6, if_pos c_10_7, if_neg c_168], hI, bx172⟩, by rw [ht]; exact hP, hD⟩, hS.F ht⟩) hS.2.2 d_RD_takes_184
  refine lv_tableOut (tgt := 185) hx hb d_RD_takes_10 (by have h0 := lv_neT (a := 0) c_10_0 (by decide); have h1 := lv_neT (a := 1) c_10_1 (by decide); have h2 := lv_neT (a := 2) c_10_2 (by decide); have h3 := lv_neT (a := 3) c_10_3 (by decide); have h4 := lv_neT (a := 4) c_10_4 (by decide); have h5 := lv_neT (a := 5) c_10_5 (by decide); have h6 := lv_neT (a := 6) c_10_6 (by decide); have h7 := lv_neT (a := 7) c_10_7 (by decide); omega) (by decide) ?_
  refine lv_aload_n hx hb d_RD_takes_185 rfl (lv_at hl 1 rfl) ?_
  refine lv_aload_n hx hb d_RD_takes_186 rfl (lv_at hl 2 rfl) ?_
  refine lv_iload_n hx hb d_RD_takes_187 rfl (lv_at hl 3 rfl) ?_
  refine cq_i (va_runV (As := [.ref (tA G k 0), .int p2]) (rest := []) ⟨hx, hb, hml, hown, hts⟩ (c_RD_takesOperator l D G S _ k p2 N hI hk) (cwV 2 hts (gV kw227 kw228 kw637 kw3 kw229) rfl rfl rfl (by decide +kernel) ⟨by show (3 : Nat) + 1 ≤ 4; omega, by show 8 + (5 + 11) + 64 ≤ 91; omega⟩) ⟨blindC, va_recv (ci := 2) (q0 := 2) hK hP rfl (w_2 G S), fun U hU hW => ⟨rfl, cPre_of hP hK hD hN hU hW⟩⟩ rfl rfl hl.1 rfl (lv_room (Nat.le_of_ble_eq_true rfl)) d_RD_takes_188 ⟨Nat.zero_le _, Nat.zero_le _⟩) hD hS hA (fun x188 S188 H locs hw hP hD hS => ?_)
  obtain ⟨hw, hI, bx188⟩ := hw
  have ex188 : x188 = (f_RD_takesOperator S k p2).1 := congrArg Prod.fst hw
  have eS188 : S188 = (f_RD_takesOperator S k p2).2 := congrArg Prod.snd hw
  clear hw
  exact W.zret (v := x188) hx hb hr (bl_nar bx188) (fun t ht hW => ⟨⟨x188, S188, rfl, ⟨by subst eS188; subst ex188; subst ex10; subst ex2; simp only [f_RD_takes, if_neg c_10_0, if_neg c_10_1, if_neg c_10_2, if_neg c_10_3, if_neg c_10_4, if_neg c_10_5, if_neg c_10_6, if_neg c_10_7], hI, bx188⟩, by rw [ht]; exact hP, hD⟩, hS.F ht⟩) hS.2.2 d_RD_takes_191
set_option maxHeartbeats 4000000 in
set_option maxRecDepth 100000 in
theorem c_RD_faultOf (l : Launch) (D : va_G) (G : GP) (S : CS) (sz : Nat) (k : Nat) (N : Nat) (hI : IC N S) (hk : k < 3) : Met l y_RD_faultOf ws_RD_faultOf ({ frames := 5, cells := 0, slots := 0, locals := 114 }) (va_Pc [.ref (aA G 2), .ref (tA G k 0)] (cPre D G S sz)) (va_Qi (fun (r : Int32) (S' : CS) => (r, S') = f_RD_faultOf S k ∧ IC N S') (wB D G (va_A (wC G S) sz)) (va_A (wC G S) sz)) 0 0 (va_A (wC G S) sz) := by
  refine Met.ofW (cc := b_RD_faultOf) (maxL := 4) (ret := (some .int)) (by decide) rfl ?_
  intro p e s m args below meth c s₁ B hml hv
  obtain ⟨rfl, hsz, hP, hK, hD0, hN⟩ := hv
  have hx := B.exec
  have hb := B.bytes
  have hr := B.returns
  have hts := atoms_spec (ws := ws_RD_faultOf) B.pre
  have hown : s.vm.findClass R_RD = some m.cls := findClass_of_methodNamed B.named
  have hlocks := B.notSynchronized
  subst hsz
  have hD := hD0.self (sz := s.heap.size)
  generalize hAe : va_A (wC G S) s.heap.size = A at hD ⊢
  have hA : ∀ q : Nat, s.heap.size ≤ q → A q := fun q h => by rw [← hAe]; exact Or.inr h
  have hS : va_S A s.heap s.heap [] := va_S.rf
  have hl := lv_entry ([.ref (aA G 2), .ref (tA G k 0)]) (n := 4) (Nat.le_of_ble_eq_true rfl)
  rw [lg_entry_eq]
  generalize (lg_sl ([.ref (aA G 2), .ref (tA G k 0)]) ++ List.replicate (4 - (lg_sl ([.ref (aA G 2), .ref (tA G k 0)])).length) Slot.unset).toArray = ls at hl ⊢
  have hl : lv_has ls 4 [(0, .ref (aA G 2)), (1, .ref (tA G k 0))] := hl
  have hI0 := hI
  refine lv_aload_n hx hb d_RD_faultOf_0 rfl (lv_at hl 1 rfl) ?_
  refine cq_v (va_runV (As := []) (rest := []) ⟨hx, hb, hml, hown, hts⟩ (c_MT_forget l D G S _ k N hI hk) (cwV 0 hts (gV kw154 kw143 kw144 kw2 kw145) rfl rfl rfl (by decide +kernel) ⟨by show (0 : Nat) + 1 ≤ 5; omega, by show 8 + (1 + 11) + 0 ≤ 114; omega⟩) ⟨blindC, va_recv (ci := 1) (q0 := 13 + 7 * k) hK hP rfl (wt_0 G S hk), fun U hU hW => ⟨rfl, cPre_of hP hK hD hN hU hW⟩⟩ rfl rfl hl.1 rfl (lv_room (Nat.le_of_ble_eq_true rfl)) d_RD_faultOf_1 ⟨Nat.zero_le _, Nat.zero_le _⟩) hD hS hA (fun S1 H locs hw hP hD hS => ?_)
  obtain ⟨eS1, hI⟩ := hw
  refine lv_aload_n hx hb d_RD_faultOf_4 rfl (lv_at hl 0 rfl) ?_
  refine lv_iconst (v := 0) hx hb d_RD_faultOf_5 (by decide) ?_
  refine va_putE (D := D) (ci := 2) (v := .int 0) (ty := .int) (C := R_RD) (T := T_RD) (N := 8) hx hb hts (fun w h => List.mem_cons_of_mem _ (in_RD w h)) t_RD t_RD_ok n_RD hown hK hP hD hS 2 (w_2 G S1) rfl 1 (by decide) (hts _ (List.mem_cons_of_mem _ kw49)) (fun _ h9 => h9) rfl (by decide +kernel) rfl rfl (Nat.le_of_ble_eq_true rfl) (wst_2_1 G S1 0) d_RD_faultOf_6 (fun H locs hP hD hS => ?_)
  obtain ⟨S6, eS6⟩ : ∃ y : CS, y = stR S1 2 1 0 := ⟨_, rfl⟩
  rw [← eS6] at hP hD
  have hI : IC N S6 := by rw [eS6]; exact IC_rd0 hI
  refine lv_aload_n hx hb d_RD_faultOf_9 rfl (lv_at hl 0 rfl) ?_
  refine lv_iconst (v := 0) hx hb d_RD_faultOf_10 (by decide) ?_
  refine va_putE (D := D) (ci := 2) (v := .int 0) (ty := .int) (C := R_RD) (T := T_RD) (N := 8) hx hb hts (fun w h => List.mem_cons_of_mem _ (in_RD w h)) t_RD t_RD_ok n_RD hown hK hP hD hS 2 (w_2 G S6) rfl 2 (by decide) (hts _ (List.mem_cons_of_mem _ kw50)) (fun _ h9 => h9) rfl (by decide +kernel) rfl rfl (Nat.le_of_ble_eq_true rfl) (wst_2_2 G S6 0) d_RD_faultOf_11 (fun H locs hP hD hS => ?_)
  obtain ⟨S11, eS11⟩ : ∃ y : CS, y = stR S6 2 2 0 := ⟨_, rfl⟩
  rw [← eS11] at hP hD
  have hI : IC N S11 := by rw [eS11]; exact IC_R hI _ _ _ (by decide)
  refine lv_aload_n hx hb d_RD_faultOf_14 rfl (lv_at hl 1 rfl) ?_
  refine vp_callSi (W.runV (As := []) (rest := []) ⟨hx, hb, hml, hown, hts⟩ (c_MT_length l D G S11 k N hI hk) (cwV 0 hts (gV kw155 kw131 kw132 kw2 kw133) rfl rfl rfl (by decide +kernel) ⟨by show (0 : Nat) + 1 ≤ 5; omega, by show 8 + (1 + 11) + 0 ≤ 114; omega⟩) ⟨blindR, va_recv (ci := 1) (q0 := 13 + 7 * k) hK hP rfl (wt_0 G S11 hk), fun U hU hW => ⟨rfl, rPre_of hP hK hN hU hW⟩⟩ rfl rfl hl.1 rfl (lv_room (Nat.le_of_ble_eq_true rfl)) d_RD_faultOf_15 ⟨Nat.zero_le _, Nat.zero_le _⟩) (fun x15 ex15 => ?_)
  refine lv_istore_n (lv' := [(2, .int x15), (0, .ref (aA G 2)), (1, .ref (tA G k 0))]) hx hb d_RD_faultOf_18 rfl hl (by decide) rfl (fun ls hl => ?_)
  refine lv_iconst (v := 0) hx hb d_RD_faultOf_19 (by decide) ?_
  refine lv_istore_n (lv' := [(3, .int 0), (2, .int x15), (0, .ref (aA G 2)), (1, .ref (tA G k 0))]) hx hb d_RD_faultOf_20 rfl hl (by decide) rfl (fun ls hl => ?_)
  obtain ⟨Bn, hBn, hB60⟩ : ∃ b : Nat, x15 = nI b ∧ b ≤ 60 := by rw [ex15]; exact ln_nat hI hk
  have loop : ∀ (n : Nat) (S1 : CS) (y3 : Int32) (j : Nat) (H : Heap) (locs : List Loc) (ls : Array Slot), (y3 = nI j ∧ j ≤ Bn ∧ j + n = 61) → f_RD_faultOf S k = q_RD_faultOf_21 n S1 x15 k y3 → va_P D vwCl (wC G S1) H → va_D A (wC G S1) → va_S A s.heap H locs → IC N S1 → lv_has ls 4 [(3, .int y3), (2, .int x15), (0, .ref (aA G 2)), (1, .ref (tA G k 0))] → W p l e (headSpec ws_RD_faultOf ({ frames := 5, cells := 0, slots := 0, locals := 114 })).room s m ([.ref (aA G 2), .ref (tA G k 0)] : List Value).toArray below meth c H locs 0 0 (MQ below (va_Qi (fun (r : Int32) (S' : CS) => (r, S') = f_RD_faultOf S k ∧ IC N S') (wB D G A) A) ([.ref (aA G 2), .ref (tA G k 0)] : List Value).toArray s 0 0 A) (F0 m 21 ls []) := by
    intro n
    induction n with
    | zero => intro S1 y3 j H locs ls hi hF hP hD hS hI hl; exact absurd hi (by rintro ⟨-, h1, h2⟩; omega)
    | succ n ih =>
      intro S1 y3 j H locs ls hi hF hP hD hS hI hl
      obtain ⟨hj, hjB, hjn⟩ := hi
      refine lv_iload_n hx hb d_RD_faultOf_21 rfl (lv_at hl 0 rfl) ?_
      refine lv_iload_n hx hb d_RD_faultOf_22 rfl (lv_at hl 1 rfl) ?_
      refine lv_icmp_ge (tgt := 43) hx hb d_RD_faultOf_23 (by decide) (fun c_23 => ?_) (fun c_23 => ?_)
      · refine lv_aload_n hx hb d_RD_faultOf_43 rfl (lv_at hl 2 rfl) ?_
        refine va_get (D := D) (ci := 2) (v := .int (S1.2 2 2)) (C := R_RD) (T := T_RD) (N := 8) hx hb hts (fun w h => List.mem_cons_of_mem _ (in_RD w h)) hown hK hP 2 (w_2 G S1) rfl 2 (by decide) (hts _ (List.mem_cons_of_mem _ kw50)) (fun _ h9 => h9) rfl d_RD_faultOf_44 ?_
        refine lv_if_ne (tgt := 55) hx hb d_RD_faultOf_47 (by decide) (fun c_47 => ?_) (fun c_47 => ?_)
        · refine lv_iload_n hx hb d_RD_faultOf_55 rfl (lv_at hl 1 rfl) ?_
          exact W.iret (v := x15) hx hb hr (fun t ht hW => ⟨⟨x15, S1, rfl, ⟨by rw [hF]; simp only [q_RD_faultOf_21, if_pos c_23, if_neg c_47], hI⟩, by rw [ht]; exact hP, hD⟩, hS.F ht⟩) hS.2.2 d_RD_faultOf_56
        · refine lv_bipush (v := (-2)) hx hb d_RD_faultOf_50 (by decide) ?_
          refine lv_goto (tgt := 56) hx hb d_RD_faultOf_52 (by decide) ?_
          exact W.iret (v := (-2)) hx hb hr (fun t ht hW => ⟨⟨(-2), S1, rfl, ⟨by rw [hF]; simp only [q_RD_faultOf_21, if_pos c_23, if_pos c_47], hI⟩, by rw [ht]; exact hP, hD⟩, hS.F ht⟩) hS.2.2 d_RD_faultOf_56
      · have hlt : j < Bn := Nat.lt_of_not_le (fun q => c_23 (by rw [hj, hBn]; exact nI_le (a := Bn) q (by omega)))
        refine lv_aload_n hx hb d_RD_faultOf_26 rfl (lv_at hl 2 rfl) ?_
        refine lv_aload_n hx hb d_RD_faultOf_27 rfl (lv_at hl 3 rfl) ?_
        refine lv_iload_n hx hb d_RD_faultOf_28 rfl (lv_at hl 0 rfl) ?_
        refine cq_i (va_runV (As := [.ref (tA G k 0), .int y3]) (rest := []) ⟨hx, hb, hml, hown, hts⟩ (c_RD_takes l D G S1 _ k y3 N hI hk) (cwV 2 hts (gV kw156 kw157 kw625 kw3 kw158) rfl rfl rfl (by decide +kernel) ⟨by show (4 : Nat) + 1 ≤ 5; omega, by show 8 + (4 + 11) + 91 ≤ 114; omega⟩) ⟨blindC, va_recv (ci := 2) (q0 := 2) hK hP rfl (w_2 G S1), fun U hU hW => ⟨rfl, cPre_of hP hK hD hN hU hW⟩⟩ rfl rfl hl.1 rfl (lv_room (Nat.le_of_ble_eq_true rfl)) d_RD_faultOf_29 ⟨Nat.zero_le _, Nat.zero_le _⟩) hD hS hA (fun x29 S29 H locs hw hP hD hS => ?_)
        obtain ⟨hw, hI, bx29⟩ := hw
        have ex29 : x29 = (f_RD_takes S1 k y3).1 := congrArg Prod.fst hw
        have eS29 : S29 = (f_RD_takes S1 k y3).2 := congrArg Prod.snd hw
        clear hw
        refine lv_if_ne (tgt := 37) hx hb d_RD_faultOf_32 (by decide) (fun c_32 => ?_) (fun c_32 => ?_)
        · obtain ⟨x37, ex37⟩ : ∃ y : Int32, y = y3 + 1 := ⟨_, rfl⟩
          refine lv_iinc (v := x37) (lv' := [(3, .int x37), (2, .int x15), (0, .ref (aA G 2)), (1, .ref (tA G k 0))]) hx hb d_RD_faultOf_37 hl (k := 0) rfl (by rw [ex37]; rfl) (by decide) rfl (fun ls hl => ?_)
          refine lv_goto (tgt := 21) hx hb d_RD_faultOf_40 (by decide) ?_
          exact ih S29 x37 (j + 1) _ _ ls ⟨by rw [ex37, hj]; exact nI_1 j, by omega, by omega⟩ (by rw [hF]; subst ex37; subst eS29; subst ex29; simp only [q_RD_faultOf_21, if_neg c_23, if_neg c_32]) hP hD hS hI (lv_sub hl [0, 1, 2, 3] rfl)
        · refine lv_iload_n hx hb d_RD_faultOf_35 rfl (lv_at hl 0 rfl) ?_
          exact W.iret (v := y3) hx hb hr (fun t ht hW => ⟨⟨y3, S29, rfl, ⟨by rw [hF]; subst eS29; subst ex29; simp only [q_RD_faultOf_21, if_neg c_23, if_pos c_32], hI⟩, by rw [ht]; exact hP, hD⟩, hS.F ht⟩) hS.2.2 d_RD_faultOf_36
  exact loop (fz 61) S11 0 0 _ _ ls ⟨nI_0.symm, by omega, by rw [fz_eq]⟩ (by subst ex15; subst eS11; subst eS6; subst eS1; simp only [f_RD_faultOf]) hP hD hS hI hl
