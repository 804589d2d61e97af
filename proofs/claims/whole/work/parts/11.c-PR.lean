set_option maxHeartbeats 4000000 in
set_option maxRecDepth 100000 in
theorem c_PR_forget (l : Launch) (D : va_G) (G : GP) (S : CS) (sz : Nat) (N : Nat) (hI : IC N S) : Met l y_PR_forget ws_PR_forget ({ frames := 0, cells := 0, slots := 0, locals := 0 }) (va_Pc [.ref (aA G 4)] (cPre D G S sz)) (va_Qv (fun S' : CS => S' = f_PR_forget S ∧ IC N S') (wB D G (va_A (wC G S) sz)) (va_A (wC G S) sz)) 0 0 (va_A (wC G S) sz) := by
  refine Met.ofW (cc := b_PR_forget) (maxL := 2) (ret := none) (by decide) rfl ?_
  intro p e s m args below meth c s₁ B hml hv
  obtain ⟨rfl, hsz, hP, hK, hD0, hN⟩ := hv
  have hx := B.exec
  have hb := B.bytes
  have hr := B.returns
  have hts := atoms_spec (ws := ws_PR_forget) B.pre
  have hown : s.vm.findClass R_PR = some m.cls := findClass_of_methodNamed B.named
  have hlocks := B.notSynchronized
  subst hsz
  have hD := hD0.self (sz := s.heap.size)
  generalize hAe : va_A (wC G S) s.heap.size = A at hD ⊢
  have hA : ∀ q : Nat, s.heap.size ≤ q → A q := fun q h => by rw [← hAe]; exact Or.inr h
  have hS : va_S A s.heap s.heap [] := va_S.rf
  have hl := lv_entry ([.ref (aA G 4)]) (n := 2) (Nat.le_of_ble_eq_true rfl)
  rw [lg_entry_eq]
  generalize (lg_sl ([.ref (aA G 4)]) ++ List.replicate (2 - (lg_sl ([.ref (aA G 4)])).length) Slot.unset).toArray = ls at hl ⊢
  have hl : lv_has ls 2 [(0, .ref (aA G 4))] := hl
  refine lv_aload_n hx hb d_PR_forget_0 rfl (lv_at hl 0 rfl) ?_
  refine lv_iconst (v := 0) hx hb d_PR_forget_1 (by decide) ?_
  refine va_putE (D := D) (ci := 3) (v := .int 0) (ty := .int) (C := R_PR) (T := T_PR) (N := 3) hx hb hts (fun w h => List.mem_cons_of_mem _ (in_PR w h)) t_PR t_PR_ok n_PR hown hK hP hD hS 4 (w_4 G S) rfl 2 (by decide) (hts _ (List.mem_cons_of_mem _ kw72)) (fun _ h9 => h9) rfl (by decide +kernel) rfl rfl (Nat.le_of_ble_eq_true rfl) (wst_4_2 G S 0) d_PR_forget_2 (fun H locs hP hD hS => ?_)
  obtain ⟨S2, eS2⟩ : ∃ y : CS, y = stR S 4 2 0 := ⟨_, rfl⟩
  rw [← eS2] at hP hD
  have hI : IC N S2 := by rw [eS2]; exact IC_R hI _ _ _ (by decide)
  refine lv_iconst (v := 0) hx hb d_PR_forget_5 (by decide) ?_
  refine lv_istore_n (lv' := [(1, .int 0), (0, .ref (aA G 4))]) hx hb d_PR_forget_6 rfl hl (by decide) rfl (fun ls hl => ?_)
  have loop : ∀ (n : Nat) (S1 : CS) (y1 : Int32) (j : Nat) (H : Heap) (locs : List Loc) (ls : Array Slot), (y1 = nI j ∧ j ≤ 26 ∧ j + n = 27) → f_PR_forget S = q_PR_forget_7 n S1 y1 → va_P D vwCl (wC G S1) H → va_D A (wC G S1) → va_S A s.heap H locs → IC N S1 → lv_has ls 2 [(1, .int y1), (0, .ref (aA G 4))] → W p l e (headSpec ws_PR_forget ({ frames := 0, cells := 0, slots := 0, locals := 0 })).room s m ([.ref (aA G 4)] : List Value).toArray below meth c H locs 0 0 (MQ below (va_Qv (fun S' : CS => S' = f_PR_forget S ∧ IC N S') (wB D G A) A) ([.ref (aA G 4)] : List Value).toArray s 0 0 A) (F0 m 7 ls []) := by
    intro n
    induction n with
    | zero => intro S1 y1 j H locs ls hi hF hP hD hS hI hl; exact absurd hi (by rintro ⟨-, h1, h2⟩; omega)
    | succ n ih =>
      intro S1 y1 j H locs ls hi hF hP hD hS hI hl
      obtain ⟨hj, hjB, hjn⟩ := hi
      refine lv_iload_n hx hb d_PR_forget_7 rfl (lv_at hl 0 rfl) ?_
      refine lv_bipush (v := 26) hx hb d_PR_forget_8 (by decide) ?_
      refine lv_icmp_ge (tgt := 33) hx hb d_PR_forget_10 (by decide) (fun c_10 => ?_) (fun c_10 => ?_)
      · exact W.vret hx hb hr (fun t ht hW => ⟨⟨S1, rfl, ⟨by rw [hF]; simp only [q_PR_forget_7, if_pos c_10], hI⟩, by rw [ht]; exact hP, hD⟩, hS.F ht⟩) hS.2.2 d_PR_forget_33
      · have hlt : j < 26 := Nat.lt_of_not_le (fun q => c_10 (by rw [hj]; exact nI_le (a := 26) q (by omega)))
        refine lv_aload_n hx hb d_PR_forget_13 rfl (lv_at hl 1 rfl) ?_
        refine va_get (D := D) (ci := 3) (v := .ref (aA G 5)) (C := R_PR) (T := T_PR) (N := 3) hx hb hts (fun w h => List.mem_cons_of_mem _ (in_PR w h)) hown hK hP 4 (w_4 G S1) rfl 0 (by decide) (hts _ (List.mem_cons_of_mem _ kw70)) (fun _ h9 => h9) rfl d_PR_forget_14 ?_
        refine lv_iload_n hx hb d_PR_forget_17 rfl (lv_at hl 0 rfl) ?_
        refine lv_null hx hb d_PR_forget_18 ?_
        refine va_astqNE (D := D) hx hb hK hP hD hS 5 1 (w_5 G S1) rfl (by rw [hj]; exact vp_in_nI hlt (by omega)) (wst_5N G S1 y1.toNatClampNeg) d_PR_forget_19 (fun H locs hP hD hS => ?_)
        obtain ⟨S19, eS19⟩ : ∃ y : CS, y = stR S1 5 y1.toNatClampNeg 0 := ⟨_, rfl⟩
        rw [← eS19] at hP hD
        have hI : IC N S19 := by rw [eS19]; exact IC_h0 hI _
        refine lv_aload_n hx hb d_PR_forget_20 rfl (lv_at hl 1 rfl) ?_
        refine va_get (D := D) (ci := 3) (v := .ref (aA G 6)) (C := R_PR) (T := T_PR) (N := 3) hx hb hts (fun w h => List.mem_cons_of_mem _ (in_PR w h)) hown hK hP 4 (w_4 G S19) rfl 1 (by decide) (hts _ (List.mem_cons_of_mem _ kw71)) (fun _ h9 => h9) rfl d_PR_forget_21 ?_
        refine lv_iload_n hx hb d_PR_forget_24 rfl (lv_at hl 0 rfl) ?_
        refine lv_iconst (v := 0) hx hb d_PR_forget_25 (by decide) ?_
        refine va_iastE (D := D) hx hb hK hP hD hS 6 0 (w_6 G S19) rfl (by rw [hj]; exact vp_in_nI hlt (by omega)) (wsta_6 G S19 y1.toNatClampNeg 0) d_PR_forget_26 (fun H locs hP hD hS => ?_)
        obtain ⟨S26, eS26⟩ : ∃ y : CS, y = stR S19 6 y1.toNatClampNeg 0 := ⟨_, rfl⟩
        rw [← eS26] at hP hD
        have hI : IC N S26 := by rw [eS26]; exact IC_A hI _ _ _ (by decide)
        obtain ⟨x27, ex27⟩ : ∃ y : Int32, y = y1 + 1 := ⟨_, rfl⟩
        refine lv_iinc (v := x27) (lv' := [(1, .int x27), (0, .ref (aA G 4))]) hx hb d_PR_forget_27 hl (k := 0) rfl (by rw [ex27]; rfl) (by decide) rfl (fun ls hl => ?_)
        refine lv_goto (tgt := 7) hx hb d_PR_forget_30 (by decide) ?_
        exact ih S26 x27 (j + 1) _ _ ls ⟨by rw [ex27, hj]; exact nI_1 j, by omega, by omega⟩ (by rw [hF]; subst ex27; subst eS26; subst eS19; simp only [q_PR_forget_7, if_neg c_10]) hP hD hS hI (lv_sub hl [0, 1] rfl)
  exact loop (fz 27) S2 0 0 _ _ ls ⟨nI_0.symm, by omega, by rw [fz_eq]⟩ (by subst eS2; simp only [f_PR_forget]) hP hD hS hI hl
set_option maxHeartbeats 4000000 in
set_option maxRecDepth 100000 in
theorem c_PR_takeOver (l : Launch) (D : va_G) (G : GP) (S : CS) (sz : Nat) (k : Nat) (N : Nat) (hI : IC N S) (hk : k < 3) : Met l y_PR_takeOver ws_PR_takeOver ({ frames := 2, cells := 0, slots := 0, locals := 41 }) (va_Pc [.ref (aA G 4), .ref (tA G k 0)] (cPre D G S sz)) (va_Qv (fun S' : CS => S' = f_PR_takeOver S k ∧ IC N S') (wB D G (va_A (wC G S) sz)) (va_A (wC G S) sz)) 0 0 (va_A (wC G S) sz) := by
  refine Met.ofW (cc := b_PR_takeOver) (maxL := 3) (ret := none) (by decide) rfl ?_
  intro p e s m args below meth c s₁ B hml hv
  obtain ⟨rfl, hsz, hP, hK, hD0, hN⟩ := hv
  have hx := B.exec
  have hb := B.bytes
  have hr := B.returns
  have hts := atoms_spec (ws := ws_PR_takeOver) B.pre
  have hown : s.vm.findClass R_PR = some m.cls := findClass_of_methodNamed B.named
  have hlocks := B.notSynchronized
  subst hsz
  have hD := hD0.self (sz := s.heap.size)
  generalize hAe : va_A (wC G S) s.heap.size = A at hD ⊢
  have hA : ∀ q : Nat, s.heap.size ≤ q → A q := fun q h => by rw [← hAe]; exact Or.inr h
  have hS : va_S A s.heap s.heap [] := va_S.rf
  have hl := lv_entry ([.ref (aA G 4), .ref (tA G k 0)]) (n := 3) (Nat.le_of_ble_eq_true rfl)
  rw [lg_entry_eq]
  generalize (lg_sl ([.ref (aA G 4), .ref (tA G k 0)]) ++ List.replicate (3 - (lg_sl ([.ref (aA G 4), .ref (tA G k 0)])).length) Slot.unset).toArray = ls at hl ⊢
  have hl : lv_has ls 3 [(0, .ref (aA G 4)), (1, .ref (tA G k 0))] := hl
  refine lv_iconst (v := 0) hx hb d_PR_takeOver_0 (by decide) ?_
  refine lv_istore_n (lv' := [(2, .int 0), (0, .ref (aA G 4)), (1, .ref (tA G k 0))]) hx hb d_PR_takeOver_1 rfl hl (by decide) rfl (fun ls hl => ?_)
  have loop : ∀ (n : Nat) (S1 : CS) (y2 : Int32) (j : Nat) (H : Heap) (locs : List Loc) (ls : Array Slot), (y2 = nI j ∧ j ≤ 26 ∧ j + n = 27) → f_PR_takeOver S k = q_PR_takeOver_2 n S1 k y2 → va_P D vwCl (wC G S1) H → va_D A (wC G S1) → va_S A s.heap H locs → IC N S1 → lv_has ls 3 [(2, .int y2), (0, .ref (aA G 4)), (1, .ref (tA G k 0))] → W p l e (headSpec ws_PR_takeOver ({ frames := 2, cells := 0, slots := 0, locals := 41 })).room s m ([.ref (aA G 4), .ref (tA G k 0)] : List Value).toArray below meth c H locs 0 0 (MQ below (va_Qv (fun S' : CS => S' = f_PR_takeOver S k ∧ IC N S') (wB D G A) A) ([.ref (aA G 4), .ref (tA G k 0)] : List Value).toArray s 0 0 A) (F0 m 2 ls []) := by
    intro n
    induction n with
    | zero => intro S1 y2 j H locs ls hi hF hP hD hS hI hl; exact absurd hi (by rintro ⟨-, h1, h2⟩; omega)
    | succ n ih =>
      intro S1 y2 j H locs ls hi hF hP hD hS hI hl
      obtain ⟨hj, hjB, hjn⟩ := hi
      refine lv_iload_n hx hb d_PR_takeOver_2 rfl (lv_at hl 0 rfl) ?_
      refine lv_bipush (v := 26) hx hb d_PR_takeOver_3 (by decide) ?_
      refine lv_icmp_ge (tgt := 43) hx hb d_PR_takeOver_5 (by decide) (fun c_5 => ?_) (fun c_5 => ?_)
      · exact W.vret hx hb hr (fun t ht hW => ⟨⟨S1, rfl, ⟨by rw [hF]; simp only [q_PR_takeOver_2, if_pos c_5], hI⟩, by rw [ht]; exact hP, hD⟩, hS.F ht⟩) hS.2.2 d_PR_takeOver_43
      · have hlt : j < 26 := Nat.lt_of_not_le (fun q => c_5 (by rw [hj]; exact nI_le (a := 26) q (by omega)))
        refine lv_aload_n hx hb d_PR_takeOver_8 rfl (lv_at hl 2 rfl) ?_
        refine vp_callSi (W.runV (As := []) (rest := []) ⟨hx, hb, hml, hown, hts⟩ (c_MT_defined l D G S1 k N hI hk) (cwV 0 hts (gV kw269 kw241 kw242 kw2 kw243) rfl rfl rfl (by decide +kernel) ⟨by show (0 : Nat) + 1 ≤ 2; omega, by show 8 + (1 + 11) + 0 ≤ 41; omega⟩) ⟨blindR, va_recv (ci := 1) (q0 := 13 + 7 * k) hK hP rfl (wt_0 G S1 hk), fun U hU hW => ⟨rfl, rPre_of hP hK hN hU hW⟩⟩ rfl rfl hl.1 rfl (lv_room (Nat.le_of_ble_eq_true rfl)) d_PR_takeOver_9 ⟨Nat.zero_le _, Nat.zero_le _⟩) (fun x9 ex9 => ?_)
        refine lv_iload_n hx hb d_PR_takeOver_12 rfl (lv_at hl 0 rfl) ?_
        refine vp_callSi (va_runSN (As := [.int x9, .int y2]) (rest := []) ⟨hx, hb, hml, hown, hts⟩ (c_GS_hasBit l x9 y2) ⟨va_cnB 2 hts (gW kw175) rfl rfl rfl (hN.1 (R_PR, 55, y_GS_hasBit, "GateStack") (by decide +kernel)) (hts _ (List.mem_cons_of_mem _ kw1)) (by decide +kernel) ⟨by show (0 : Nat) + 1 ≤ 2; omega, by show 8 + (2 + 11) + 0 ≤ 41; omega⟩, (hts _ (List.mem_cons_of_mem _ kw174)), trivial⟩ ⟨blindP, fun U hU hW => ⟨rfl, NW_warm hW hN⟩⟩ rfl rfl hl.1 rfl (lv_room (Nat.le_of_ble_eq_true rfl)) d_PR_takeOver_13 ⟨Nat.zero_le _, Nat.zero_le _⟩).run (fun x13 ex13 => ?_)
        obtain ⟨ex13, bx13⟩ := ex13
        refine lv_if_eq (tgt := 37) hx hb d_PR_takeOver_16 (by decide) (fun c_16 => ?_) (fun c_16 => ?_)
        · obtain ⟨x37, ex37⟩ : ∃ y : Int32, y = y2 + 1 := ⟨_, rfl⟩
          refine lv_iinc (v := x37) (lv' := [(2, .int x37), (0, .ref (aA G 4)), (1, .ref (tA G k 0))]) hx hb d_PR_takeOver_37 hl (k := 0) rfl (by rw [ex37]; rfl) (by decide) rfl (fun ls hl => ?_)
          refine lv_goto (tgt := 2) hx hb d_PR_takeOver_40 (by decide) ?_
          exact ih S1 x37 (j + 1) _ _ ls ⟨by rw [ex37, hj]; exact nI_1 j, by omega, by omega⟩ (by rw [hF]; subst ex37; subst ex13; subst ex9; simp only [q_PR_takeOver_2, if_neg c_5, if_pos c_16]) hP hD hS hI (lv_sub hl [0, 1, 2] rfl)
        · refine lv_aload_n hx hb d_PR_takeOver_19 rfl (lv_at hl 1 rfl) ?_
          refine va_get (D := D) (ci := 3) (v := .ref (aA G 5)) (C := R_PR) (T := T_PR) (N := 3) hx hb hts (fun w h => List.mem_cons_of_mem _ (in_PR w h)) hown hK hP 4 (w_4 G S1) rfl 0 (by decide) (hts _ (List.mem_cons_of_mem _ kw70)) (fun _ h9 => h9) rfl d_PR_takeOver_20 ?_
          refine lv_iload_n hx hb d_PR_takeOver_23 rfl (lv_at hl 0 rfl) ?_
          refine lv_aload_n hx hb d_PR_takeOver_24 rfl (lv_at hl 2 rfl) ?_
          refine va_astqE (D := D) hx hb hK hP hD hS 5 1 (13 + 7 * k) 1 (w_5 G S1) rfl (wt_0 G S1 hk) rfl (by rw [hj]; exact vp_in_nI hlt (by omega)) (wst_5Q G S1 y2.toNatClampNeg hk) d_PR_takeOver_25 (fun H locs hP hD hS => ?_)
          obtain ⟨S25, eS25⟩ : ∃ y : CS, y = stR S1 5 y2.toNatClampNeg (nI (k + 1)) := ⟨_, rfl⟩
          rw [← eS25] at hP hD
          have hI : IC N S25 := by rw [eS25]; exact IC_hq hI _ hk
          refine lv_aload_n hx hb d_PR_takeOver_26 rfl (lv_at hl 1 rfl) ?_
          refine va_get (D := D) (ci := 3) (v := .ref (aA G 6)) (C := R_PR) (T := T_PR) (N := 3) hx hb hts (fun w h => List.mem_cons_of_mem _ (in_PR w h)) hown hK hP 4 (w_4 G S25) rfl 1 (by decide) (hts _ (List.mem_cons_of_mem _ kw71)) (fun _ h9 => h9) rfl d_PR_takeOver_27 ?_
          refine lv_iload_n hx hb d_PR_takeOver_30 rfl (lv_at hl 0 rfl) ?_
          refine lv_aload_n hx hb d_PR_takeOver_31 rfl (lv_at hl 2 rfl) ?_
          refine lv_iload_n hx hb d_PR_takeOver_32 rfl (lv_at hl 0 rfl) ?_
          refine vp_callSi (W.runV (As := [.int y2]) (rest := [.int y2, .ref (aA G 6)]) ⟨hx, hb, hml, hown, hts⟩ (c_MT_callsOf l D G S25 k y2 N hI hk) (cwV 1 hts (gV kw273 kw274 kw275 kw2 kw276) rfl rfl rfl (by decide +kernel) ⟨by show (1 : Nat) + 1 ≤ 2; omega, by show 8 + (2 + 11) + 20 ≤ 41; omega⟩) ⟨blindR, va_recv (ci := 1) (q0 := 13 + 7 * k) hK hP rfl (wt_0 G S25 hk), fun U hU hW => ⟨rfl, rPre_of hP hK hN hU hW⟩⟩ rfl rfl hl.1 rfl (lv_room (Nat.le_of_ble_eq_true rfl)) d_PR_takeOver_33 ⟨Nat.zero_le _, Nat.zero_le _⟩) (fun x33 ex33 => ?_)
          refine va_iastE (D := D) hx hb hK hP hD hS 6 0 (w_6 G S25) rfl (by rw [hj]; exact vp_in_nI hlt (by omega)) (wsta_6 G S25 y2.toNatClampNeg x33) d_PR_takeOver_36 (fun H locs hP hD hS => ?_)
          obtain ⟨S36, eS36⟩ : ∃ y : CS, y = stR S25 6 y2.toNatClampNeg x33 := ⟨_, rfl⟩
          rw [← eS36] at hP hD
          have hI : IC N S36 := by rw [eS36]; exact IC_A hI _ _ _ (by decide)
          obtain ⟨x37, ex37⟩ : ∃ y : Int32, y = y2 + 1 := ⟨_, rfl⟩
          refine lv_iinc (v := x37) (lv' := [(2, .int x37), (0, .ref (aA G 4)), (1, .ref (tA G k 0))]) hx hb d_PR_takeOver_37 hl (k := 0) rfl (by rw [ex37]; rfl) (by decide) rfl (fun ls hl => ?_)
          refine lv_goto (tgt := 2) hx hb d_PR_takeOver_40 (by decide) ?_
          exact ih S36 x37 (j + 1) _ _ ls ⟨by rw [ex37, hj]; exact nI_1 j, by omega, by omega⟩ (by rw [hF]; subst ex37; subst eS36; subst ex33; subst eS25; subst ex13; subst ex9; simp only [q_PR_takeOver_2, if_neg c_5, if_neg c_16]) hP hD hS hI (lv_sub hl [0, 1, 2] rfl)
  exact loop (fz 27) S 0 0 _ _ ls ⟨nI_0.symm, by omega, by rw [fz_eq]⟩ (by simp only [f_PR_takeOver]) hP hD hS hI hl
set_option maxHeartbeats 4000000 in
set_option maxRecDepth 100000 in
theorem c_PR_lacksOne (l : Launch) (D : va_G) (G : GP) (S : CS) (N : Nat) (hI : IC N S) : Met l y_PR_lacksOne ws_PR_lacksOne ({ frames := 0, cells := 0, slots := 0, locals := 0 }) (va_Pc [.ref (aA G 4)] (rPre D G S)) (vp_Si (fun r => r = f_PR_lacksOne S ∧ bl r)) 0 0 (fun _ => False) := by
  refine Met.ofW (cc := b_PR_lacksOne) (maxL := 3) (ret := (some .boolean)) (by decide) rfl ?_
  intro p e s m args below meth c s₁ B hml hv
  obtain ⟨rfl, hP, hK, hN⟩ := hv
  have hx := B.exec
  have hb := B.bytes
  have hr := B.returns
  have hts := atoms_spec (ws := ws_PR_lacksOne) B.pre
  have hown : s.vm.findClass R_PR = some m.cls := findClass_of_methodNamed B.named
  have hlocks := B.notSynchronized
  have hl := lv_entry ([.ref (aA G 4)]) (n := 3) (Nat.le_of_ble_eq_true rfl)
  rw [lg_entry_eq]
  generalize (lg_sl ([.ref (aA G 4)]) ++ List.replicate (3 - (lg_sl ([.ref (aA G 4)])).length) Slot.unset).toArray = ls at hl ⊢
  have hl : lv_has ls 3 [(0, .ref (aA G 4))] := hl
  refine lv_sipush (v := 4096) hx hb d_PR_lacksOne_0 (by decide) ?_
  refine lv_istore_n (lv' := [(1, .int 4096), (0, .ref (aA G 4))]) hx hb d_PR_lacksOne_3 rfl hl (by decide) rfl (fun ls hl => ?_)
  refine lv_iconst (v := 0) hx hb d_PR_lacksOne_4 (by decide) ?_
  refine lv_istore_n (lv' := [(2, .int 0), (1, .int 4096), (0, .ref (aA G 4))]) hx hb d_PR_lacksOne_5 rfl hl (by decide) rfl (fun ls hl => ?_)
  have loop : ∀ (n : Nat) (y2 : Int32) (y1 : Int32) (j : Nat) (ls : Array Slot), (y2 = nI j ∧ j ≤ 26 ∧ j + n = 27) → f_PR_lacksOne S = q_PR_lacksOne_6 n S y2 y1 → lv_has ls 3 [(2, .int y2), (1, .int y1), (0, .ref (aA G 4))] → W p l e (headSpec ws_PR_lacksOne ({ frames := 0, cells := 0, slots := 0, locals := 0 })).room s m ([.ref (aA G 4)] : List Value).toArray below meth c s.heap [] 0 0 (MQ below (vp_Si (fun r => r = f_PR_lacksOne S ∧ bl r)) ([.ref (aA G 4)] : List Value).toArray s 0 0 (fun _ => False)) (F0 m 6 ls []) := by
    intro n
    induction n with
    | zero => intro  y2 y1 j ls hi hF hl; exact absurd hi (by rintro ⟨-, h1, h2⟩; omega)
    | succ n ih =>
      intro  y2 y1 j ls hi hF hl
      obtain ⟨hj, hjB, hjn⟩ := hi
      refine lv_iload_n hx hb d_PR_lacksOne_6 rfl (lv_at hl 0 rfl) ?_
      refine lv_bipush (v := 26) hx hb d_PR_lacksOne_7 (by decide) ?_
      refine lv_icmp_ge (tgt := 27) hx hb d_PR_lacksOne_9 (by decide) (fun c_9 => ?_) (fun c_9 => ?_)
      · refine lv_iload_n hx hb d_PR_lacksOne_27 rfl (lv_at hl 1 rfl) ?_
        refine lv_aload_n hx hb d_PR_lacksOne_28 rfl (lv_at hl 2 rfl) ?_
        refine va_get (D := D) (ci := 3) (v := .int (S.2 4 2)) (C := R_PR) (T := T_PR) (N := 3) hx hb hts (fun w h => List.mem_cons_of_mem _ (in_PR w h)) hown hK hP 4 (w_4 G S) rfl 2 (by decide) (hts _ (List.mem_cons_of_mem _ kw72)) (fun _ h9 => h9) rfl d_PR_lacksOne_29 ?_
        refine lv_iconst (v := (-1)) hx hb d_PR_lacksOne_32 (by decide) ?_
        refine lv_ixor hx hb d_PR_lacksOne_33 ?_
        refine lv_topi (fun x33 ex33 => ?_)
        refine lv_iand hx hb d_PR_lacksOne_34 ?_
        refine lv_topi (fun x34 ex34 => ?_)
        refine lv_if_eq (tgt := 42) hx hb d_PR_lacksOne_35 (by decide) (fun c_35 => ?_) (fun c_35 => ?_)
        · refine lv_iconst (v := 0) hx hb d_PR_lacksOne_42 (by decide) ?_
          exact W.zret (v := 0) hx hb hr (bl_nar (Or.inl rfl)) (fun t ht hW => ⟨0, rfl, ⟨by rw [hF]; subst ex34; subst ex33; simp only [q_PR_lacksOne_6, if_pos c_9, if_pos c_35], (Or.inl rfl)⟩, ht⟩) (fun q h => absurd h List.not_mem_nil) d_PR_lacksOne_43
        · refine lv_iconst (v := 1) hx hb d_PR_lacksOne_38 (by decide) ?_
          refine lv_goto (tgt := 43) hx hb d_PR_lacksOne_39 (by decide) ?_
          exact W.zret (v := 1) hx hb hr (bl_nar (Or.inr rfl)) (fun t ht hW => ⟨1, rfl, ⟨by rw [hF]; subst ex34; subst ex33; simp only [q_PR_lacksOne_6, if_pos c_9, if_neg c_35], (Or.inr rfl)⟩, ht⟩) (fun q h => absurd h List.not_mem_nil) d_PR_lacksOne_43
      · have hlt : j < 26 := Nat.lt_of_not_le (fun q => c_9 (by rw [hj]; exact nI_le (a := 26) q (by omega)))
        refine lv_iload_n hx hb d_PR_lacksOne_12 rfl (lv_at hl 1 rfl) ?_
        refine lv_aload_n hx hb d_PR_lacksOne_13 rfl (lv_at hl 2 rfl) ?_
        refine va_get (D := D) (ci := 3) (v := .ref (aA G 6)) (C := R_PR) (T := T_PR) (N := 3) hx hb hts (fun w h => List.mem_cons_of_mem _ (in_PR w h)) hown hK hP 4 (w_4 G S) rfl 1 (by decide) (hts _ (List.mem_cons_of_mem _ kw71)) (fun _ h9 => h9) rfl d_PR_lacksOne_14 ?_
        refine lv_iload_n hx hb d_PR_lacksOne_17 rfl (lv_at hl 0 rfl) ?_
        refine va_iald (D := D) hx hb hK hP 6 0 (w_6 G S) rfl (by rw [hj]; exact vp_in_nI hlt (by omega)) d_PR_lacksOne_18 ?_
        refine lv_topi (fun x18 ex18 => ?_)
        refine lv_ior hx hb d_PR_lacksOne_19 ?_
        refine lv_topi (fun x19 ex19 => ?_)
        refine lv_istore_n (lv' := [(1, .int x19), (2, .int y2), (0, .ref (aA G 4))]) hx hb d_PR_lacksOne_20 rfl hl (by decide) rfl (fun ls hl => ?_)
        obtain ⟨x21, ex21⟩ : ∃ y : Int32, y = y2 + 1 := ⟨_, rfl⟩
        refine lv_iinc (v := x21) (lv' := [(2, .int x21), (1, .int x19), (0, .ref (aA G 4))]) hx hb d_PR_lacksOne_21 hl (k := 1) rfl (by rw [ex21]; rfl) (by decide) rfl (fun ls hl => ?_)
        refine lv_goto (tgt := 6) hx hb d_PR_lacksOne_24 (by decide) ?_
        exact ih  x21 x19 (j + 1) ls ⟨by rw [ex21, hj]; exact nI_1 j, by omega, by omega⟩ (by rw [hF]; subst ex21; subst ex19; subst ex18; simp only [q_PR_lacksOne_6, if_neg c_9])  (lv_sub hl [0, 1, 2] rfl)
  exact loop (fz 27)  0 4096 0 ls ⟨nI_0.symm, by omega, by rw [fz_eq]⟩ (by simp only [f_PR_lacksOne])  hl
set_option maxHeartbeats 4000000 in
set_option maxRecDepth 100000 in
theorem c_PR_followChains (l : Launch) (D : va_G) (G : GP) (S : CS) (sz : Nat) (N : Nat) (hI : IC N S) : Met l y_PR_followChains ws_PR_followChains ({ frames := 1, cells := 0, slots := 0, locals := 21 }) (va_Pc [.ref (aA G 4)] (cPre D G S sz)) (va_Qv (fun S' : CS => S' = f_PR_followChains S ∧ IC N S') (wB D G (va_A (wC G S) sz)) (va_A (wC G S) sz)) 0 0 (va_A (wC G S) sz) := by
  refine Met.ofW (cc := b_PR_followChains) (maxL := 3) (ret := none) (by decide) rfl ?_
  intro p e s m args below meth c s₁ B hml hv
  obtain ⟨rfl, hsz, hP, hK, hD0, hN⟩ := hv
  have hx := B.exec
  have hb := B.bytes
  have hr := B.returns
  have hts := atoms_spec (ws := ws_PR_followChains) B.pre
  have hown : s.vm.findClass R_PR = some m.cls := findClass_of_methodNamed B.named
  have hlocks := B.notSynchronized
  subst hsz
  have hD := hD0.self (sz := s.heap.size)
  generalize hAe : va_A (wC G S) s.heap.size = A at hD ⊢
  have hA : ∀ q : Nat, s.heap.size ≤ q → A q := fun q h => by rw [← hAe]; exact Or.inr h
  have hS : va_S A s.heap s.heap [] := va_S.rf
  have hl := lv_entry ([.ref (aA G 4)]) (n := 3) (Nat.le_of_ble_eq_true rfl)
  rw [lg_entry_eq]
  generalize (lg_sl ([.ref (aA G 4)]) ++ List.replicate (3 - (lg_sl ([.ref (aA G 4)])).length) Slot.unset).toArray = ls at hl ⊢
  have hl : lv_has ls 3 [(0, .ref (aA G 4))] := hl
  refine lv_iconst (v := 0) hx hb d_PR_followChains_0 (by decide) ?_
  refine lv_istore_n (lv' := [(1, .int 0), (0, .ref (aA G 4))]) hx hb d_PR_followChains_1 rfl hl (by decide) rfl (fun ls hl => ?_)
  have loop : ∀ (n : Nat) (S1 : CS) (y1 : Int32) (j : Nat) (H : Heap) (locs : List Loc) (ls : Array Slot), (y1 = nI j ∧ j ≤ 26 ∧ j + n = 27) → f_PR_followChains S = q_PR_followChains_2 n S1 y1 → va_P D vwCl (wC G S1) H → va_D A (wC G S1) → va_S A s.heap H locs → IC N S1 → lv_has ls 3 [(1, .int y1), (0, .ref (aA G 4))] → W p l e (headSpec ws_PR_followChains ({ frames := 1, cells := 0, slots := 0, locals := 21 })).room s m ([.ref (aA G 4)] : List Value).toArray below meth c H locs 0 0 (MQ below (va_Qv (fun S' : CS => S' = f_PR_followChains S ∧ IC N S') (wB D G A) A) ([.ref (aA G 4)] : List Value).toArray s 0 0 A) (F0 m 2 ls []) := by
    intro n
    induction n with
    | zero => intro S1 y1 j H locs ls hi hF hP hD hS hI hl; exact absurd hi (by rintro ⟨-, h1, h2⟩; omega)
    | succ n ih =>
      intro S1 y1 j H locs ls hi hF hP hD hS hI hl
      obtain ⟨hj, hjB, hjn⟩ := hi
      refine lv_iload_n hx hb d_PR_followChains_2 rfl (lv_at hl 0 rfl) ?_
      refine lv_bipush (v := 26) hx hb d_PR_followChains_3 (by decide) ?_
      refine lv_icmp_ge (tgt := 56) hx hb d_PR_followChains_5 (by decide) (fun c_5 => ?_) (fun c_5 => ?_)
      · exact W.vret hx hb hr (fun t ht hW => ⟨⟨S1, rfl, ⟨by rw [hF]; simp only [q_PR_followChains_2, if_pos c_5], hI⟩, by rw [ht]; exact hP, hD⟩, hS.F ht⟩) hS.2.2 d_PR_followChains_56
      · have hlt : j < 26 := Nat.lt_of_not_le (fun q => c_5 (by rw [hj]; exact nI_le (a := 26) q (by omega)))
        refine lv_iconst (v := 0) hx hb d_PR_followChains_8 (by decide) ?_
        refine lv_istore_n (lv' := [(2, .int 0), (1, .int y1), (0, .ref (aA G 4))]) hx hb d_PR_followChains_9 rfl hl (by decide) rfl (fun ls hl => ?_)
        have loop2 : ∀ (n2 : Nat) (S2 : CS) (y2 : Int32) (j2 : Nat) (H : Heap) (locs : List Loc) (ls : Array Slot), (y2 = nI j2 ∧ j2 ≤ 26 ∧ j2 + n2 = 27) → q_PR_followChains_10 (fz 27) S1 y1 0 = q_PR_followChains_10 n2 S2 y1 y2 → va_P D vwCl (wC G S2) H → va_D A (wC G S2) → va_S A s.heap H locs → IC N S2 → lv_has ls 3 [(2, .int y2), (1, .int y1), (0, .ref (aA G 4))] → W p l e (headSpec ws_PR_followChains ({ frames := 1, cells := 0, slots := 0, locals := 21 })).room s m ([.ref (aA G 4)] : List Value).toArray below meth c H locs 0 0 (MQ below (va_Qv (fun S' : CS => S' = f_PR_followChains S ∧ IC N S') (wB D G A) A) ([.ref (aA G 4)] : List Value).toArray s 0 0 A) (F0 m 10 ls []) := by
          intro n2
          induction n2 with
          | zero => intro S2 y2 j2 H locs ls hi2 hF2 hP hD hS hI hl; exact absurd hi2 (by rintro ⟨-, h1, h2⟩; omega)
          | succ n2 ih2 =>
            intro S2 y2 j2 H locs ls hi2 hF2 hP hD hS hI hl
            obtain ⟨hj2, hjB2, hjn2⟩ := hi2
            refine lv_iload_n hx hb d_PR_followChains_10 rfl (lv_at hl 0 rfl) ?_
            refine lv_bipush (v := 26) hx hb d_PR_followChains_11 (by decide) ?_
            refine lv_icmp_ge (tgt := 50) hx hb d_PR_followChains_13 (by decide) (fun c_13 => ?_) (fun c_13 => ?_)
            · obtain ⟨x50, ex50⟩ : ∃ y : Int32, y = y1 + 1 := ⟨_, rfl⟩
              refine lv_iinc (v := x50) (lv' := [(1, .int x50), (2, .int y2), (0, .ref (aA G 4))]) hx hb d_PR_followChains_50 hl (k := 1) rfl (by rw [ex50]; rfl) (by decide) rfl (fun ls hl => ?_)
              refine lv_goto (tgt := 2) hx hb d_PR_followChains_53 (by decide) ?_
              have hq : q_PR_followChains_10 (fz 27) S1 y1 0 = S2 := hF2.trans (by simp only [q_PR_followChains_10, if_pos c_13])
              exact ih S2 x50 (j + 1) _ _ ls ⟨by rw [ex50, hj]; exact nI_1 j, by omega, by omega⟩ (by rw [hF]; subst ex50; simp only [q_PR_followChains_2, if_neg c_5, hq]) hP hD hS hI (lv_sub hl [0, 2] rfl)
            · have hlt2 : j2 < 26 := Nat.lt_of_not_le (fun q => c_13 (by rw [hj2]; exact nI_le (a := 26) q (by omega)))
              refine lv_aload_n hx hb d_PR_followChains_16 rfl (lv_at hl 2 rfl) ?_
              refine va_get (D := D) (ci := 3) (v := .ref (aA G 6)) (C := R_PR) (T := T_PR) (N := 3) hx hb hts (fun w h => List.mem_cons_of_mem _ (in_PR w h)) hown hK hP 4 (w_4 G S2) rfl 1 (by decide) (hts _ (List.mem_cons_of_mem _ kw71)) (fun _ h9 => h9) rfl d_PR_followChains_17 ?_
              refine lv_iload_n hx hb d_PR_followChains_20 rfl (lv_at hl 0 rfl) ?_
              refine va_iald (D := D) hx hb hK hP 6 0 (w_6 G S2) rfl (by rw [hj2]; exact vp_in_nI hlt2 (by omega)) d_PR_followChains_21 ?_
              refine lv_topi (fun x21 ex21 => ?_)
              refine lv_iload_n hx hb d_PR_followChains_22 rfl (lv_at hl 1 rfl) ?_
              refine vp_callSi (va_runSN (As := [.int x21, .int y1]) (rest := []) ⟨hx, hb, hml, hown, hts⟩ (c_GS_hasBit l x21 y1) ⟨va_cnB 2 hts (gW kw175) rfl rfl rfl (hN.1 (R_PR, 55, y_GS_hasBit, "GateStack") (by decide +kernel)) (hts _ (List.mem_cons_of_mem _ kw1)) (by decide +kernel) ⟨by show (0 : Nat) + 1 ≤ 1; omega, by show 8 + (2 + 11) + 0 ≤ 21; omega⟩, (hts _ (List.mem_cons_of_mem _ kw174)), trivial⟩ ⟨blindP, fun U hU hW => ⟨rfl, NW_warm hW hN⟩⟩ rfl rfl hl.1 rfl (lv_room (Nat.le_of_ble_eq_true rfl)) d_PR_followChains_23 ⟨Nat.zero_le _, Nat.zero_le _⟩).run (fun x23 ex23 => ?_)
              obtain ⟨ex23, bx23⟩ := ex23
              refine lv_if_eq (tgt := 44) hx hb d_PR_followChains_26 (by decide) (fun c_26 => ?_) (fun c_26 => ?_)
              · obtain ⟨x44, ex44⟩ : ∃ y : Int32, y = y2 + 1 := ⟨_, rfl⟩
                refine lv_iinc (v := x44) (lv' := [(2, .int x44), (1, .int y1), (0, .ref (aA G 4))]) hx hb d_PR_followChains_44 hl (k := 0) rfl (by rw [ex44]; rfl) (by decide) rfl (fun ls hl => ?_)
                refine lv_goto (tgt := 10) hx hb d_PR_followChains_47 (by decide) ?_
                exact ih2 S2 x44 (j2 + 1) _ _ ls ⟨by rw [ex44, hj2]; exact nI_1 j2, by omega, by omega⟩ (by rw [hF2]; subst ex44; subst ex23; subst ex21; simp only [q_PR_followChains_10, if_neg c_13, if_pos c_26]) hP hD hS hI (lv_sub hl [0, 1, 2] rfl)
              · refine lv_aload_n hx hb d_PR_followChains_29 rfl (lv_at hl 2 rfl) ?_
                refine va_get (D := D) (ci := 3) (v := .ref (aA G 6)) (C := R_PR) (T := T_PR) (N := 3) hx hb hts (fun w h => List.mem_cons_of_mem _ (in_PR w h)) hown hK hP 4 (w_4 G S2) rfl 1 (by decide) (hts _ (List.mem_cons_of_mem _ kw71)) (fun _ h9 => h9) rfl d_PR_followChains_30 ?_
                refine lv_iload_n hx hb d_PR_followChains_33 rfl (lv_at hl 0 rfl) ?_
                refine lv_dup2_11 hx hb d_PR_followChains_34 rfl rfl ?_
                refine va_iald (D := D) hx hb hK hP 6 0 (w_6 G S2) rfl (by rw [hj2]; exact vp_in_nI hlt2 (by omega)) d_PR_followChains_35 ?_
                refine lv_topi (fun x35 ex35 => ?_)
                refine lv_aload_n hx hb d_PR_followChains_36 rfl (lv_at hl 2 rfl) ?_
                refine va_get (D := D) (ci := 3) (v := .ref (aA G 6)) (C := R_PR) (T := T_PR) (N := 3) hx hb hts (fun w h => List.mem_cons_of_mem _ (in_PR w h)) hown hK hP 4 (w_4 G S2) rfl 1 (by decide) (hts _ (List.mem_cons_of_mem _ kw71)) (fun _ h9 => h9) rfl d_PR_followChains_37 ?_
                refine lv_iload_n hx hb d_PR_followChains_40 rfl (lv_at hl 1 rfl) ?_
                refine va_iald (D := D) hx hb hK hP 6 0 (w_6 G S2) rfl (by rw [hj]; exact vp_in_nI hlt (by omega)) d_PR_followChains_41 ?_
                refine lv_topi (fun x41 ex41 => ?_)
                refine lv_ior hx hb d_PR_followChains_42 ?_
                refine lv_topi (fun x42 ex42 => ?_)
                refine va_iastE (D := D) hx hb hK hP hD hS 6 0 (w_6 G S2) rfl (by rw [hj2]; exact vp_in_nI hlt2 (by omega)) (wsta_6 G S2 y2.toNatClampNeg x42) d_PR_followChains_43 (fun H locs hP hD hS => ?_)
                obtain ⟨S43, eS43⟩ : ∃ y : CS, y = stR S2 6 y2.toNatClampNeg x42 := ⟨_, rfl⟩
                rw [← eS43] at hP hD
                have hI : IC N S43 := by rw [eS43]; exact IC_A hI _ _ _ (by decide)
                obtain ⟨x44, ex44⟩ : ∃ y : Int32, y = y2 + 1 := ⟨_, rfl⟩
                refine lv_iinc (v := x44) (lv' := [(2, .int x44), (1, .int y1), (0, .ref (aA G 4))]) hx hb d_PR_followChains_44 hl (k := 0) rfl (by rw [ex44]; rfl) (by decide) rfl (fun ls hl => ?_)
                refine lv_goto (tgt := 10) hx hb d_PR_followChains_47 (by decide) ?_
                exact ih2 S43 x44 (j2 + 1) _ _ ls ⟨by rw [ex44, hj2]; exact nI_1 j2, by omega, by omega⟩ (by rw [hF2]; subst ex44; subst eS43; subst ex42; subst ex41; subst ex35; subst ex23; subst ex21; simp only [q_PR_followChains_10, if_neg c_13, if_neg c_26]) hP hD hS hI (lv_sub hl [0, 1, 2] rfl)
        exact loop2 (fz 27) S1 0 0 _ _ ls ⟨nI_0.symm, by omega, by rw [fz_eq]⟩ rfl hP hD hS hI hl
  exact loop (fz 27) S 0 0 _ _ ls ⟨nI_0.symm, by omega, by rw [fz_eq]⟩ (by simp only [f_PR_followChains]) hP hD hS hI hl
set_option maxHeartbeats 4000000 in
set_option maxRecDepth 100000 in
theorem c_PR_hasCircle (l : Launch) (D : va_G) (G : GP) (S : CS) (N : Nat) (hI : IC N S) : Met l y_PR_hasCircle ws_PR_hasCircle ({ frames := 1, cells := 0, slots := 0, locals := 21 }) (va_Pc [.ref (aA G 4)] (rPre D G S)) (vp_Si (fun r => r = f_PR_hasCircle S ∧ bl r)) 0 0 (fun _ => False) := by
  refine Met.ofW (cc := b_PR_hasCircle) (maxL := 2) (ret := (some .boolean)) (by decide) rfl ?_
  intro p e s m args below meth c s₁ B hml hv
  obtain ⟨rfl, hP, hK, hN⟩ := hv
  have hx := B.exec
  have hb := B.bytes
  have hr := B.returns
  have hts := atoms_spec (ws := ws_PR_hasCircle) B.pre
  have hown : s.vm.findClass R_PR = some m.cls := findClass_of_methodNamed B.named
  have hlocks := B.notSynchronized
  have hl := lv_entry ([.ref (aA G 4)]) (n := 2) (Nat.le_of_ble_eq_true rfl)
  rw [lg_entry_eq]
  generalize (lg_sl ([.ref (aA G 4)]) ++ List.replicate (2 - (lg_sl ([.ref (aA G 4)])).length) Slot.unset).toArray = ls at hl ⊢
  have hl : lv_has ls 2 [(0, .ref (aA G 4))] := hl
  refine lv_iconst (v := 0) hx hb d_PR_hasCircle_0 (by decide) ?_
  refine lv_istore_n (lv' := [(1, .int 0), (0, .ref (aA G 4))]) hx hb d_PR_hasCircle_1 rfl hl (by decide) rfl (fun ls hl => ?_)
  have loop : ∀ (n : Nat) (y1 : Int32) (j : Nat) (ls : Array Slot), (y1 = nI j ∧ j ≤ 26 ∧ j + n = 27) → f_PR_hasCircle S = q_PR_hasCircle_2 n S y1 → lv_has ls 2 [(1, .int y1), (0, .ref (aA G 4))] → W p l e (headSpec ws_PR_hasCircle ({ frames := 1, cells := 0, slots := 0, locals := 21 })).room s m ([.ref (aA G 4)] : List Value).toArray below meth c s.heap [] 0 0 (MQ below (vp_Si (fun r => r = f_PR_hasCircle S ∧ bl r)) ([.ref (aA G 4)] : List Value).toArray s 0 0 (fun _ => False)) (F0 m 2 ls []) := by
    intro n
    induction n with
    | zero => intro  y1 j ls hi hF hl; exact absurd hi (by rintro ⟨-, h1, h2⟩; omega)
    | succ n ih =>
      intro  y1 j ls hi hF hl
      obtain ⟨hj, hjB, hjn⟩ := hi
      refine lv_iload_n hx hb d_PR_hasCircle_2 rfl (lv_at hl 0 rfl) ?_
      refine lv_bipush (v := 26) hx hb d_PR_hasCircle_3 (by decide) ?_
      refine lv_icmp_ge (tgt := 29) hx hb d_PR_hasCircle_5 (by decide) (fun c_5 => ?_) (fun c_5 => ?_)
      · refine lv_iconst (v := 0) hx hb d_PR_hasCircle_29 (by decide) ?_
        exact W.zret (v := 0) hx hb hr (bl_nar (Or.inl rfl)) (fun t ht hW => ⟨0, rfl, ⟨by rw [hF]; simp only [q_PR_hasCircle_2, if_pos c_5], (Or.inl rfl)⟩, ht⟩) (fun q h => absurd h List.not_mem_nil) d_PR_hasCircle_30
      · have hlt : j < 26 := Nat.lt_of_not_le (fun q => c_5 (by rw [hj]; exact nI_le (a := 26) q (by omega)))
        refine lv_aload_n hx hb d_PR_hasCircle_8 rfl (lv_at hl 1 rfl) ?_
        refine va_get (D := D) (ci := 3) (v := .ref (aA G 6)) (C := R_PR) (T := T_PR) (N := 3) hx hb hts (fun w h => List.mem_cons_of_mem _ (in_PR w h)) hown hK hP 4 (w_4 G S) rfl 1 (by decide) (hts _ (List.mem_cons_of_mem _ kw71)) (fun _ h9 => h9) rfl d_PR_hasCircle_9 ?_
        refine lv_iload_n hx hb d_PR_hasCircle_12 rfl (lv_at hl 0 rfl) ?_
        refine va_iald (D := D) hx hb hK hP 6 0 (w_6 G S) rfl (by rw [hj]; exact vp_in_nI hlt (by omega)) d_PR_hasCircle_13 ?_
        refine lv_topi (fun x13 ex13 => ?_)
        refine lv_iload_n hx hb d_PR_hasCircle_14 rfl (lv_at hl 0 rfl) ?_
        refine vp_callSi (va_runSN (As := [.int x13, .int y1]) (rest := []) ⟨hx, hb, hml, hown, hts⟩ (c_GS_hasBit l x13 y1) ⟨va_cnB 2 hts (gW kw175) rfl rfl rfl (hN.1 (R_PR, 55, y_GS_hasBit, "GateStack") (by decide +kernel)) (hts _ (List.mem_cons_of_mem _ kw1)) (by decide +kernel) ⟨by show (0 : Nat) + 1 ≤ 1; omega, by show 8 + (2 + 11) + 0 ≤ 21; omega⟩, (hts _ (List.mem_cons_of_mem _ kw174)), trivial⟩ ⟨blindP, fun U hU hW => ⟨rfl, NW_warm hW hN⟩⟩ rfl rfl hl.1 rfl (lv_room (Nat.le_of_ble_eq_true rfl)) d_PR_hasCircle_15 ⟨Nat.zero_le _, Nat.zero_le _⟩).run (fun x15 ex15 => ?_)
        obtain ⟨ex15, bx15⟩ := ex15
        refine lv_if_eq (tgt := 23) hx hb d_PR_hasCircle_18 (by decide) (fun c_18 => ?_) (fun c_18 => ?_)
        · obtain ⟨x23, ex23⟩ : ∃ y : Int32, y = y1 + 1 := ⟨_, rfl⟩
          refine lv_iinc (v := x23) (lv' := [(1, .int x23), (0, .ref (aA G 4))]) hx hb d_PR_hasCircle_23 hl (k := 0) rfl (by rw [ex23]; rfl) (by decide) rfl (fun ls hl => ?_)
          refine lv_goto (tgt := 2) hx hb d_PR_hasCircle_26 (by decide) ?_
          exact ih  x23 (j + 1) ls ⟨by rw [ex23, hj]; exact nI_1 j, by omega, by omega⟩ (by rw [hF]; subst ex23; subst ex15; subst ex13; simp only [q_PR_hasCircle_2, if_neg c_5, if_pos c_18])  (lv_sub hl [0, 1] rfl)
        · refine lv_iconst (v := 1) hx hb d_PR_hasCircle_21 (by decide) ?_
          exact W.zret (v := 1) hx hb hr (bl_nar (Or.inr rfl)) (fun t ht hW => ⟨1, rfl, ⟨by rw [hF]; subst ex15; subst ex13; simp only [q_PR_hasCircle_2, if_neg c_5, if_neg c_18], (Or.inr rfl)⟩, ht⟩) (fun q h => absurd h List.not_mem_nil) d_PR_hasCircle_22
  exact loop (fz 27)  0 0 ls ⟨nI_0.symm, by omega, by rw [fz_eq]⟩ (by simp only [f_PR_hasCircle])  hl
set_option maxHeartbeats 4000000 in
set_option maxRecDepth 100000 in
theorem c_PR_join (l : Launch) (D : va_G) (G : GP) (S : CS) (sz : Nat) (N : Nat) (hI : IC N S) : Met l y_PR_join ws_PR_join ({ frames := 3, cells := 0, slots := 0, locals := 63 }) (va_Pc [.ref (aA G 4), .ref (aA G 1)] (cPre D G S sz)) (va_Qi (fun (r : Int32) (S' : CS) => (r, S') = f_PR_join S ∧ IC N S') (wB D G (va_A (wC G S) sz)) (va_A (wC G S) sz)) 0 0 (va_A (wC G S) sz) := by
  refine Met.ofW (cc := b_PR_join) (maxL := 3) (ret := (some .int)) (by decide) rfl ?_
  intro p e s m args below meth c s₁ B hml hv
  obtain ⟨rfl, hsz, hP, hK, hD0, hN⟩ := hv
  have hx := B.exec
  have hb := B.bytes
  have hr := B.returns
  have hts := atoms_spec (ws := ws_PR_join) B.pre
  have hown : s.vm.findClass R_PR = some m.cls := findClass_of_methodNamed B.named
  have hlocks := B.notSynchronized
  subst hsz
  have hD := hD0.self (sz := s.heap.size)
  generalize hAe : va_A (wC G S) s.heap.size = A at hD ⊢
  have hA : ∀ q : Nat, s.heap.size ≤ q → A q := fun q h => by rw [← hAe]; exact Or.inr h
  have hS : va_S A s.heap s.heap [] := va_S.rf
  have hl := lv_entry ([.ref (aA G 4), .ref (aA G 1)]) (n := 3) (Nat.le_of_ble_eq_true rfl)
  rw [lg_entry_eq]
  generalize (lg_sl ([.ref (aA G 4), .ref (aA G 1)]) ++ List.replicate (3 - (lg_sl ([.ref (aA G 4), .ref (aA G 1)])).length) Slot.unset).toArray = ls at hl ⊢
  have hl : lv_has ls 3 [(0, .ref (aA G 4)), (1, .ref (aA G 1))] := hl
  refine lv_aload_n hx hb d_PR_join_0 rfl (lv_at hl 0 rfl) ?_
  refine cq_v (va_runV (As := []) (rest := []) ⟨hx, hb, hml, hown, hts⟩ (c_PR_forget l D G S _ N hI) (cwV 0 hts (gV kw266 kw267 kw638 kw4 kw268) rfl rfl rfl (by decide +kernel) ⟨by show (0 : Nat) + 1 ≤ 3; omega, by show 8 + (2 + 11) + 0 ≤ 63; omega⟩) ⟨blindC, va_recv (ci := 3) (q0 := 4) hK hP rfl (w_4 G S), fun U hU hW => ⟨rfl, cPre_of hP hK hD hN hU hW⟩⟩ rfl rfl hl.1 rfl (lv_room (Nat.le_of_ble_eq_true rfl)) d_PR_join_1 ⟨Nat.zero_le _, Nat.zero_le _⟩) hD hS hA (fun S1 H locs hw hP hD hS => ?_)
  obtain ⟨eS1, hI⟩ := hw
  refine lv_iconst (v := 0) hx hb d_PR_join_4 (by decide) ?_
  refine lv_istore_n (lv' := [(2, .int 0), (0, .ref (aA G 4)), (1, .ref (aA G 1))]) hx hb d_PR_join_5 rfl hl (by decide) rfl (fun ls hl => ?_)
  have loop : ∀ (n : Nat) (S1 : CS) (y2 : Int32) (j : Nat) (H : Heap) (locs : List Loc) (ls : Array Slot), (y2 = nI j ∧ j ≤ 3 ∧ j + n = 4) → f_PR_join S = q_PR_join_6 n S1 y2 → va_P D vwCl (wC G S1) H → va_D A (wC G S1) → va_S A s.heap H locs → IC N S1 → lv_has ls 3 [(2, .int y2), (0, .ref (aA G 4)), (1, .ref (aA G 1))] → W p l e (headSpec ws_PR_join ({ frames := 3, cells := 0, slots := 0, locals := 63 })).room s m ([.ref (aA G 4), .ref (aA G 1)] : List Value).toArray below meth c H locs 0 0 (MQ below (va_Qi (fun (r : Int32) (S' : CS) => (r, S') = f_PR_join S ∧ IC N S') (wB D G A) A) ([.ref (aA G 4), .ref (aA G 1)] : List Value).toArray s 0 0 A) (F0 m 6 ls []) := by
    intro n
    induction n with
    | zero => intro S1 y2 j H locs ls hi hF hP hD hS hI hl; exact absurd hi (by rintro ⟨-, h1, h2⟩; omega)
    | succ n ih =>
      intro S1 y2 j H locs ls hi hF hP hD hS hI hl
      obtain ⟨hj, hjB, hjn⟩ := hi
      refine lv_iload_n hx hb d_PR_join_6 rfl (lv_at hl 0 rfl) ?_
      refine lv_aload_n hx hb d_PR_join_7 rfl (lv_at hl 2 rfl) ?_
      refine va_alen (D := D) (v := 3) hx hb hK hP 1 1 (w_1 G S1) rfl rfl d_PR_join_8 ?_
      refine lv_icmp_ge (tgt := 57) hx hb d_PR_join_9 (by decide) (fun c_9 => ?_) (fun c_9 => ?_)
      · refine lv_aload_n hx hb d_PR_join_57 rfl (lv_at hl 1 rfl) ?_
        refine vp_callSi (W.runV (As := []) (rest := []) ⟨hx, hb, hml, hown, hts⟩ (c_PR_lacksOne l D G S1 N hI) (cwV 0 hts (gV kw277 kw278 kw640 kw4 kw279) rfl rfl rfl (by decide +kernel) ⟨by show (0 : Nat) + 1 ≤ 3; omega, by show 8 + (3 + 11) + 0 ≤ 63; omega⟩) ⟨blindR, va_recv (ci := 3) (q0 := 4) hK hP rfl (w_4 G S1), fun U hU hW => ⟨rfl, rPre_of hP hK hN hU hW⟩⟩ rfl rfl hl.1 rfl (lv_room (Nat.le_of_ble_eq_true rfl)) d_PR_join_58 ⟨Nat.zero_le _, Nat.zero_le _⟩) (fun x58 ex58 => ?_)
        obtain ⟨ex58, bx58⟩ := ex58
        refine lv_if_eq (tgt := 67) hx hb d_PR_join_61 (by decide) (fun c_61 => ?_) (fun c_61 => ?_)
        · refine lv_aload_n hx hb d_PR_join_67 rfl (lv_at hl 1 rfl) ?_
          refine cq_v (va_runV (As := []) (rest := []) ⟨hx, hb, hml, hown, hts⟩ (c_PR_followChains l D G S1 _ N hI) (cwV 0 hts (gV kw280 kw281 kw641 kw4 kw282) rfl rfl rfl (by decide +kernel) ⟨by show (1 : Nat) + 1 ≤ 3; omega, by show 8 + (3 + 11) + 21 ≤ 63; omega⟩) ⟨blindC, va_recv (ci := 3) (q0 := 4) hK hP rfl (w_4 G S1), fun U hU hW => ⟨rfl, cPre_of hP hK hD hN hU hW⟩⟩ rfl rfl hl.1 rfl (lv_room (Nat.le_of_ble_eq_true rfl)) d_PR_join_68 ⟨Nat.zero_le _, Nat.zero_le _⟩) hD hS hA (fun S68 H locs hw hP hD hS => ?_)
          obtain ⟨eS68, hI⟩ := hw
          refine lv_aload_n hx hb d_PR_join_71 rfl (lv_at hl 1 rfl) ?_
          refine vp_callSi (W.runV (As := []) (rest := []) ⟨hx, hb, hml, hown, hts⟩ (c_PR_hasCircle l D G S68 N hI) (cwV 0 hts (gV kw283 kw284 kw642 kw4 kw285) rfl rfl rfl (by decide +kernel) ⟨by show (1 : Nat) + 1 ≤ 3; omega, by show 8 + (2 + 11) + 21 ≤ 63; omega⟩) ⟨blindR, va_recv (ci := 3) (q0 := 4) hK hP rfl (w_4 G S68), fun U hU hW => ⟨rfl, rPre_of hP hK hN hU hW⟩⟩ rfl rfl hl.1 rfl (lv_room (Nat.le_of_ble_eq_true rfl)) d_PR_join_72 ⟨Nat.zero_le _, Nat.zero_le _⟩) (fun x72 ex72 => ?_)
          obtain ⟨ex72, bx72⟩ := ex72
          refine lv_if_eq (tgt := 83) hx hb d_PR_join_75 (by decide) (fun c_75 => ?_) (fun c_75 => ?_)
          · refine lv_aload_n hx hb d_PR_join_83 rfl (lv_at hl 1 rfl) ?_
            refine va_get (D := D) (ci := 3) (v := .int (S68.2 4 2)) (C := R_PR) (T := T_PR) (N := 3) hx hb hts (fun w h => List.mem_cons_of_mem _ (in_PR w h)) hown hK hP 4 (w_4 G S68) rfl 2 (by decide) (hts _ (List.mem_cons_of_mem _ kw72)) (fun _ h9 => h9) rfl d_PR_join_84 ?_
            refine vp_callSi (W.runS (As := [.int (S68.2 4 2)]) (rest := []) ⟨hx, hb, hml, hown, hts⟩ (c_JI_bitCount l (S68.2 4 2)) (va_cwS 1 hts (gSS kw286 kw245 kw8 kw246) rfl rfl rfl (by decide +kernel) ⟨by show (0 : Nat) + 1 ≤ 3; omega, by show 8 + (1 + 11) + 0 ≤ 63; omega⟩) ⟨blindP, fun U hU hW => ⟨rfl, NW_warm hW hN⟩⟩ rfl rfl hl.1 rfl (lv_room (Nat.le_of_ble_eq_true rfl)) d_PR_join_87 ⟨Nat.zero_le _, Nat.zero_le _⟩) (fun x87 ex87 => ?_)
            exact W.iret (v := x87) hx hb hr (fun t ht hW => ⟨⟨x87, S68, rfl, ⟨by rw [hF]; subst ex87; subst ex72; subst eS68; subst ex58; simp only [q_PR_join_6, if_pos c_9, if_pos c_61, if_pos c_75], hI⟩, by rw [ht]; exact hP, hD⟩, hS.F ht⟩) hS.2.2 d_PR_join_90
          · refine lv_bipush (v := (-5)) hx hb d_PR_join_78 (by decide) ?_
            refine lv_goto (tgt := 90) hx hb d_PR_join_80 (by decide) ?_
            exact W.iret (v := (-5)) hx hb hr (fun t ht hW => ⟨⟨(-5), S68, rfl, ⟨by rw [hF]; subst ex72; subst eS68; subst ex58; simp only [q_PR_join_6, if_pos c_9, if_pos c_61, if_neg c_75], hI⟩, by rw [ht]; exact hP, hD⟩, hS.F ht⟩) hS.2.2 d_PR_join_90
        · refine lv_bipush (v := (-4)) hx hb d_PR_join_64 (by decide) ?_
          exact W.iret (v := (-4)) hx hb hr (fun t ht hW => ⟨⟨(-4), S1, rfl, ⟨by rw [hF]; subst ex58; simp only [q_PR_join_6, if_pos c_9, if_neg c_61], hI⟩, by rw [ht]; exact hP, hD⟩, hS.F ht⟩) hS.2.2 d_PR_join_66
      · have hlt : j < 3 := Nat.lt_of_not_le (fun q => c_9 (by rw [hj]; exact nI_le (a := 3) q (by omega)))
        refine lv_aload_n hx hb d_PR_join_12 rfl (lv_at hl 1 rfl) ?_
        refine va_get (D := D) (ci := 3) (v := .int (S1.2 4 2)) (C := R_PR) (T := T_PR) (N := 3) hx hb hts (fun w h => List.mem_cons_of_mem _ (in_PR w h)) hown hK hP 4 (w_4 G S1) rfl 2 (by decide) (hts _ (List.mem_cons_of_mem _ kw72)) (fun _ h9 => h9) rfl d_PR_join_13 ?_
        refine lv_aload_n hx hb d_PR_join_16 rfl (lv_at hl 2 rfl) ?_
        refine lv_iload_n hx hb d_PR_join_17 rfl (lv_at hl 0 rfl) ?_
        refine md_ald (D := D) hx hb hK hP (by rw [hj]; exact vp_in_nI hlt (by omega)) d_PR_join_18 ?_
        refine vp_callSi (W.runV (As := []) (rest := [.int (S1.2 4 2)]) ⟨hx, hb, hml, hown, hts⟩ (c_MT_defined l D G S1 y2.toNatClampNeg N hI (by rw [hj, nI_clamp (by omega)]; exact hlt)) (cwV 0 hts (gV kw269 kw241 kw242 kw2 kw243) rfl rfl rfl (by decide +kernel) ⟨by show (0 : Nat) + 1 ≤ 3; omega, by show 8 + (1 + 11) + 0 ≤ 63; omega⟩) ⟨blindR, va_recv (ci := 1) (q0 := 13 + 7 * y2.toNatClampNeg) hK hP rfl (wt_0 G S1 (by rw [hj, nI_clamp (by omega)]; exact hlt)), fun U hU hW => ⟨rfl, rPre_of hP hK hN hU hW⟩⟩ rfl rfl hl.1 rfl (lv_room (Nat.le_of_ble_eq_true rfl)) d_PR_join_19 ⟨Nat.zero_le _, Nat.zero_le _⟩) (fun x19 ex19 => ?_)
        refine lv_iand hx hb d_PR_join_22 ?_
        refine lv_topi (fun x22 ex22 => ?_)
        refine lv_if_eq (tgt := 29) hx hb d_PR_join_23 (by decide) (fun c_23 => ?_) (fun c_23 => ?_)
        · refine lv_aload_n hx hb d_PR_join_29 rfl (lv_at hl 1 rfl) ?_
          refine lv_dup hx hb d_PR_join_30 rfl ?_
          refine va_get (D := D) (ci := 3) (v := .int (S1.2 4 2)) (C := R_PR) (T := T_PR) (N := 3) hx hb hts (fun w h => List.mem_cons_of_mem _ (in_PR w h)) hown hK hP 4 (w_4 G S1) rfl 2 (by decide) (hts _ (List.mem_cons_of_mem _ kw72)) (fun _ h9 => h9) rfl d_PR_join_31 ?_
          refine lv_aload_n hx hb d_PR_join_34 rfl (lv_at hl 2 rfl) ?_
          refine lv_iload_n hx hb d_PR_join_35 rfl (lv_at hl 0 rfl) ?_
          refine md_ald (D := D) hx hb hK hP (by rw [hj]; exact vp_in_nI hlt (by omega)) d_PR_join_36 ?_
          refine vp_callSi (W.runV (As := []) (rest := [.int (S1.2 4 2), .ref (aA G 4)]) ⟨hx, hb, hml, hown, hts⟩ (c_MT_defined l D G S1 y2.toNatClampNeg N hI (by rw [hj, nI_clamp (by omega)]; exact hlt)) (cwV 0 hts (gV kw269 kw241 kw242 kw2 kw243) rfl rfl rfl (by decide +kernel) ⟨by show (0 : Nat) + 1 ≤ 3; omega, by show 8 + (1 + 11) + 0 ≤ 63; omega⟩) ⟨blindR, va_recv (ci := 1) (q0 := 13 + 7 * y2.toNatClampNeg) hK hP rfl (wt_0 G S1 (by rw [hj, nI_clamp (by omega)]; exact hlt)), fun U hU hW => ⟨rfl, rPre_of hP hK hN hU hW⟩⟩ rfl rfl hl.1 rfl (lv_room (Nat.le_of_ble_eq_true rfl)) d_PR_join_37 ⟨Nat.zero_le _, Nat.zero_le _⟩) (fun x37 ex37 => ?_)
          obtain rfl : x19 = x37 := ex19.trans ex37.symm
          refine lv_ior hx hb d_PR_join_40 ?_
          refine lv_topi (fun x40 ex40 => ?_)
          refine va_putE (D := D) (ci := 3) (v := .int x40) (ty := .int) (C := R_PR) (T := T_PR) (N := 3) hx hb hts (fun w h => List.mem_cons_of_mem _ (in_PR w h)) t_PR t_PR_ok n_PR hown hK hP hD hS 4 (w_4 G S1) rfl 2 (by decide) (hts _ (List.mem_cons_of_mem _ kw72)) (fun _ h9 => h9) rfl (by decide +kernel) rfl rfl (Nat.le_of_ble_eq_true rfl) (wst_4_2 G S1 x40) d_PR_join_41 (fun H locs hP hD hS => ?_)
          obtain ⟨S41, eS41⟩ : ∃ y : CS, y = stR S1 4 2 x40 := ⟨_, rfl⟩
          rw [← eS41] at hP hD
          have hI : IC N S41 := by rw [eS41]; exact IC_R hI _ _ _ (by decide)
          refine lv_aload_n hx hb d_PR_join_44 rfl (lv_at hl 1 rfl) ?_
          refine lv_aload_n hx hb d_PR_join_45 rfl (lv_at hl 2 rfl) ?_
          refine lv_iload_n hx hb d_PR_join_46 rfl (lv_at hl 0 rfl) ?_
          refine md_ald (D := D) hx hb hK hP (by rw [hj]; exact vp_in_nI hlt (by omega)) d_PR_join_47 ?_
          refine cq_v (va_runV (As := [.ref (tA G y2.toNatClampNeg 0)]) (rest := []) ⟨hx, hb, hml, hown, hts⟩ (c_PR_takeOver l D G S41 _ y2.toNatClampNeg N hI (by rw [hj, nI_clamp (by omega)]; exact hlt)) (cwV 1 hts (gV kw270 kw271 kw639 kw4 kw272) rfl rfl rfl (by decide +kernel) ⟨by show (2 : Nat) + 1 ≤ 3; omega, by show 8 + (3 + 11) + 41 ≤ 63; omega⟩) ⟨blindC, va_recv (ci := 3) (q0 := 4) hK hP rfl (w_4 G S41), fun U hU hW => ⟨rfl, cPre_of hP hK hD hN hU hW⟩⟩ rfl rfl hl.1 rfl (lv_room (Nat.le_of_ble_eq_true rfl)) d_PR_join_48 ⟨Nat.zero_le _, Nat.zero_le _⟩) hD hS hA (fun S48 H locs hw hP hD hS => ?_)
          obtain ⟨eS48, hI⟩ := hw
          obtain ⟨x51, ex51⟩ : ∃ y : Int32, y = y2 + 1 := ⟨_, rfl⟩
          refine lv_iinc (v := x51) (lv' := [(2, .int x51), (0, .ref (aA G 4)), (1, .ref (aA G 1))]) hx hb d_PR_join_51 hl (k := 0) rfl (by rw [ex51]; rfl) (by decide) rfl (fun ls hl => ?_)
          refine lv_goto (tgt := 6) hx hb d_PR_join_54 (by decide) ?_
          exact ih S48 x51 (j + 1) _ _ ls ⟨by rw [ex51, hj]; exact nI_1 j, by omega, by omega⟩ (by rw [hF]; subst ex51; subst eS48; subst eS41; subst ex40; subst ex22; subst ex19; simp only [q_PR_join_6, if_neg c_9, if_pos c_23]) hP hD hS hI (lv_sub hl [0, 1, 2] rfl)
        · refine lv_bipush (v := (-3)) hx hb d_PR_join_26 (by decide) ?_
          exact W.iret (v := (-3)) hx hb hr (fun t ht hW => ⟨⟨(-3), S1, rfl, ⟨by rw [hF]; subst ex22; subst ex19; simp only [q_PR_join_6, if_neg c_9, if_neg c_23], hI⟩, by rw [ht]; exact hP, hD⟩, hS.F ht⟩) hS.2.2 d_PR_join_28
  exact loop (fz 4) S1 0 0 _ _ ls ⟨nI_0.symm, by omega, by rw [fz_eq]⟩ (by subst eS1; simp only [f_PR_join]) hP hD hS hI hl
set_option maxHeartbeats 4000000 in
set_option maxRecDepth 100000 in
theorem c_PR_homeOf (l : Launch) (D : va_G) (G : GP) (S : CS) (p1 : Int32) (N : Nat) (hI : IC N S) : Met l y_PR_homeOf ws_PR_homeOf ({ frames := 1, cells := 0, slots := 0, locals := 20 }) (va_Pc [.ref (aA G 4), .int p1] (rPre D G S)) (va_Sq (fun r => r = hm G (f_PR_homeOf S p1))) 0 0 (fun _ => False) := by
  refine Met.ofW (cc := b_PR_homeOf) (maxL := 2) (ret := (some (.object "GateStack$ModuleText"))) (by decide) rfl ?_
  intro p e s m args below meth c s₁ B hml hv
  obtain ⟨rfl, hP, hK, hN⟩ := hv
  have hx := B.exec
  have hb := B.bytes
  have hr := B.returns
  have hts := atoms_spec (ws := ws_PR_homeOf) B.pre
  have hown : s.vm.findClass R_PR = some m.cls := findClass_of_methodNamed B.named
  have hlocks := B.notSynchronized
  have hl := lv_entry ([.ref (aA G 4), .int p1]) (n := 2) (Nat.le_of_ble_eq_true rfl)
  rw [lg_entry_eq]
  generalize (lg_sl ([.ref (aA G 4), .int p1]) ++ List.replicate (2 - (lg_sl ([.ref (aA G 4), .int p1])).length) Slot.unset).toArray = ls at hl ⊢
  have hl : lv_has ls 2 [(0, .ref (aA G 4)), (1, .int p1)] := hl
  refine lv_iload_n hx hb d_PR_homeOf_0 rfl (lv_at hl 1 rfl) ?_
  refine vp_callSi (va_runSN (As := [.int p1]) (rest := []) ⟨hx, hb, hml, hown, hts⟩ (c_GS_isLetterNumber l p1) ⟨va_cnB 1 hts (gW kw173) rfl rfl rfl (hN.1 (R_PR, 51, y_GS_isLetterNumber, "GateStack") (by decide +kernel)) (hts _ (List.mem_cons_of_mem _ kw1)) (by decide +kernel) ⟨by show (0 : Nat) + 1 ≤ 1; omega, by show 8 + (1 + 11) + 0 ≤ 20; omega⟩, (hts _ (List.mem_cons_of_mem _ kw172)), trivial⟩ ⟨blindP, fun U hU hW => ⟨rfl, NW_warm hW hN⟩⟩ rfl rfl hl.1 rfl (lv_room (Nat.le_of_ble_eq_true rfl)) d_PR_homeOf_1 ⟨Nat.zero_le _, Nat.zero_le _⟩).run (fun x1 ex1 => ?_)
  obtain ⟨ex1, bx1⟩ := ex1
  refine lv_if_eq (tgt := 16) hx hb d_PR_homeOf_4 (by decide) (fun c_4 => ?_) (fun c_4 => ?_)
  · refine lv_null hx hb d_PR_homeOf_16 ?_
    exact W.aret (v := .null) hx hb hr (Or.inl ⟨_, rfl⟩) (va_rf_or (hm G 0)) (fun t ht hW => ⟨hm G 0, rfl, by subst ex1; simp only [f_PR_homeOf, if_pos c_4], ht⟩) (fun q h => absurd h List.not_mem_nil) d_PR_homeOf_17
  · refine lv_aload_n hx hb d_PR_homeOf_7 rfl (lv_at hl 0 rfl) ?_
    refine va_get (D := D) (ci := 3) (v := .ref (aA G 5)) (C := R_PR) (T := T_PR) (N := 3) hx hb hts (fun w h => List.mem_cons_of_mem _ (in_PR w h)) hown hK hP 4 (w_4 G S) rfl 0 (by decide) (hts _ (List.mem_cons_of_mem _ kw70)) (fun _ h9 => h9) rfl d_PR_homeOf_8 ?_
    refine lv_iload_n hx hb d_PR_homeOf_11 rfl (lv_at hl 1 rfl) ?_
    refine va_aldq (D := D) hx hb hK hP 5 1 (w_5 G S) rfl (let_in (by rw [← ex1]; exact c_4)) d_PR_homeOf_12 ?_
    refine lv_goto (tgt := 17) hx hb d_PR_homeOf_13 (by decide) ?_
    exact W.aret (v := va_rf (hm G (hc (S.2 5 p1.toNatClampNeg)))) hx hb hr (Or.inl ⟨_, rfl⟩) (va_rf_or (hm G (hc (S.2 5 p1.toNatClampNeg)))) (fun t ht hW => ⟨hm G (hc (S.2 5 p1.toNatClampNeg)), rfl, by subst ex1; simp only [f_PR_homeOf, if_neg c_4], ht⟩) (fun q h => absurd h List.not_mem_nil) d_PR_homeOf_17
