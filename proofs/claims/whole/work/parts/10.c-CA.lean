set_option maxHeartbeats 4000000 in
set_option maxRecDepth 100000 in
theorem c_CA_number (l : Launch) (D : va_G) (G : GP) (S : CS) (sz : Nat) (k : Nat) (N : Nat) (hI : IC N S) (hk : k < 3) : Met l y_CA_number ws_CA_number ({ frames := 1, cells := 0, slots := 0, locals := 21 }) (va_Pc [.ref (aA G 7), .ref (tA G k 0)] (cPre D G S sz)) (va_Qi (fun (r : Int32) (S' : CS) => (r, S') = f_CA_number S k ∧ IC N S') (wB D G (va_A (wC G S) sz)) (va_A (wC G S) sz)) 0 0 (va_A (wC G S) sz) := by
  refine Met.ofW (cc := b_CA_number) (maxL := 4) (ret := (some .int)) (by decide) rfl ?_
  intro p e s m args below meth c s₁ B hml hv
  obtain ⟨rfl, hsz, hP, hK, hD0, hN⟩ := hv
  have hx := B.exec
  have hb := B.bytes
  have hr := B.returns
  have hts := atoms_spec (ws := ws_CA_number) B.pre
  have hown : s.vm.findClass R_CA = some m.cls := findClass_of_methodNamed B.named
  have hlocks := B.notSynchronized
  subst hsz
  have hD := hD0.self (sz := s.heap.size)
  generalize hAe : va_A (wC G S) s.heap.size = A at hD ⊢
  have hA : ∀ q : Nat, s.heap.size ≤ q → A q := fun q h => by rw [← hAe]; exact Or.inr h
  have hS : va_S A s.heap s.heap [] := va_S.rf
  have hl := lv_entry ([.ref (aA G 7), .ref (tA G k 0)]) (n := 4) (Nat.le_of_ble_eq_true rfl)
  rw [lg_entry_eq]
  generalize (lg_sl ([.ref (aA G 7), .ref (tA G k 0)]) ++ List.replicate (4 - (lg_sl ([.ref (aA G 7), .ref (tA G k 0)])).length) Slot.unset).toArray = ls at hl ⊢
  have hl : lv_has ls 4 [(0, .ref (aA G 7)), (1, .ref (tA G k 0))] := hl
  refine lv_iconst (v := 0) hx hb d_CA_number_0 (by decide) ?_
  refine lv_istore_n (lv' := [(2, .int 0), (0, .ref (aA G 7)), (1, .ref (tA G k 0))]) hx hb d_CA_number_1 rfl hl (by decide) rfl (fun ls hl => ?_)
  refine lv_iconst (v := 0) hx hb d_CA_number_2 (by decide) ?_
  refine lv_istore_n (lv' := [(3, .int 0), (2, .int 0), (0, .ref (aA G 7)), (1, .ref (tA G k 0))]) hx hb d_CA_number_3 rfl hl (by decide) rfl (fun ls hl => ?_)
  have loop : ∀ (n : Nat) (S1 : CS) (y3 : Int32) (y2 : Int32) (j : Nat) (H : Heap) (locs : List Loc) (ls : Array Slot), (y3 = nI j ∧ j ≤ 4 ∧ j + n = 5) → f_CA_number S k = q_CA_number_4 n S1 k y3 y2 → va_P D vwCl (wC G S1) H → va_D A (wC G S1) → va_S A s.heap H locs → IC N S1 → lv_has ls 4 [(3, .int y3), (2, .int y2), (0, .ref (aA G 7)), (1, .ref (tA G k 0))] → W p l e (headSpec ws_CA_number ({ frames := 1, cells := 0, slots := 0, locals := 21 })).room s m ([.ref (aA G 7), .ref (tA G k 0)] : List Value).toArray below meth c H locs 0 0 (MQ below (va_Qi (fun (r : Int32) (S' : CS) => (r, S') = f_CA_number S k ∧ IC N S') (wB D G A) A) ([.ref (aA G 7), .ref (tA G k 0)] : List Value).toArray s 0 0 A) (F0 m 4 ls []) := by
    intro n
    induction n with
    | zero => intro S1 y3 y2 j H locs ls hi hF hP hD hS hI hl; exact absurd hi (by rintro ⟨-, h1, h2⟩; omega)
    | succ n ih =>
      intro S1 y3 y2 j H locs ls hi hF hP hD hS hI hl
      obtain ⟨hj, hjB, hjn⟩ := hi
      refine lv_iload_n hx hb d_CA_number_4 rfl (lv_at hl 0 rfl) ?_
      refine lv_iconst (v := 4) hx hb d_CA_number_5 (by decide) ?_
      refine lv_icmp_ge (tgt := 56) hx hb d_CA_number_6 (by decide) (fun c_6 => ?_) (fun c_6 => ?_)
      · refine lv_iload_n hx hb d_CA_number_56 rfl (lv_at hl 1 rfl) ?_
        exact W.iret (v := y2) hx hb hr (fun t ht hW => ⟨⟨y2, S1, rfl, ⟨by rw [hF]; simp only [q_CA_number_4, if_pos c_6], hI⟩, by rw [ht]; exact hP, hD⟩, hS.F ht⟩) hS.2.2 d_CA_number_57
      · have hlt : j < 4 := Nat.lt_of_not_le (fun q => c_6 (by rw [hj]; exact nI_le (a := 4) q (by omega)))
        refine lv_aload_n hx hb d_CA_number_9 rfl (lv_at hl 3 rfl) ?_
        refine lv_aload_n hx hb d_CA_number_10 rfl (lv_at hl 2 rfl) ?_
        refine va_get (D := D) (ci := 4) (v := .int (S1.2 7 1)) (C := R_CA) (T := T_CA) (N := 2) hx hb hts (fun w h => List.mem_cons_of_mem _ (in_CA w h)) hown hK hP 7 (w_7 G S1) rfl 1 (by decide) (hts _ (List.mem_cons_of_mem _ kw82)) (fun _ h9 => h9) rfl d_CA_number_11 ?_
        refine vp_callSi (W.runV (As := [.int (S1.2 7 1)]) (rest := []) ⟨hx, hb, hml, hown, hts⟩ (c_MT_signAt l D G S1 k (S1.2 7 1) N hI hk) (cwV 1 hts (gV kw350 kw160 kw161 kw2 kw162) rfl rfl rfl (by decide +kernel) ⟨by show (0 : Nat) + 1 ≤ 1; omega, by show 8 + (2 + 11) + 0 ≤ 21; omega⟩) ⟨blindR, va_recv (ci := 1) (q0 := 13 + 7 * k) hK hP rfl (wt_0 G S1 hk), fun U hU hW => ⟨rfl, rPre_of hP hK hN hU hW⟩⟩ rfl rfl hl.1 rfl (lv_room (Nat.le_of_ble_eq_true rfl)) d_CA_number_14 ⟨Nat.zero_le _, Nat.zero_le _⟩) (fun x14 ex14 => ?_)
        refine vp_callSi (va_runSN (As := [.int x14]) (rest := []) ⟨hx, hb, hml, hown, hts⟩ (c_GS_isDigit l x14) ⟨va_cnB 1 hts (gW kw223) rfl rfl rfl (hN.1 (R_CA, 43, y_GS_isDigit, "GateStack") (by decide +kernel)) (hts _ (List.mem_cons_of_mem _ kw1)) (by decide +kernel) ⟨by show (0 : Nat) + 1 ≤ 1; omega, by show 8 + (1 + 11) + 0 ≤ 21; omega⟩, (hts _ (List.mem_cons_of_mem _ kw222)), trivial⟩ ⟨blindP, fun U hU hW => ⟨rfl, NW_warm hW hN⟩⟩ rfl rfl hl.1 rfl (lv_room (Nat.le_of_ble_eq_true rfl)) d_CA_number_17 ⟨Nat.zero_le _, Nat.zero_le _⟩).run (fun x17 ex17 => ?_)
        obtain ⟨ex17, bx17⟩ := ex17
        refine lv_if_eq (tgt := 56) hx hb d_CA_number_20 (by decide) (fun c_20 => ?_) (fun c_20 => ?_)
        · refine lv_iload_n hx hb d_CA_number_56 rfl (lv_at hl 1 rfl) ?_
          exact W.iret (v := y2) hx hb hr (fun t ht hW => ⟨⟨y2, S1, rfl, ⟨by rw [hF]; subst ex17; subst ex14; simp only [q_CA_number_4, if_neg c_6, if_pos c_20], hI⟩, by rw [ht]; exact hP, hD⟩, hS.F ht⟩) hS.2.2 d_CA_number_57
        · refine lv_iload_n hx hb d_CA_number_23 rfl (lv_at hl 1 rfl) ?_
          refine lv_bipush (v := 10) hx hb d_CA_number_24 (by decide) ?_
          refine lv_imul hx hb d_CA_number_26 ?_
          refine lv_topi (fun x26 ex26 => ?_)
          refine lv_aload_n hx hb d_CA_number_27 rfl (lv_at hl 3 rfl) ?_
          refine lv_aload_n hx hb d_CA_number_28 rfl (lv_at hl 2 rfl) ?_
          refine va_get (D := D) (ci := 4) (v := .int (S1.2 7 1)) (C := R_CA) (T := T_CA) (N := 2) hx hb hts (fun w h => List.mem_cons_of_mem _ (in_CA w h)) hown hK hP 7 (w_7 G S1) rfl 1 (by decide) (hts _ (List.mem_cons_of_mem _ kw82)) (fun _ h9 => h9) rfl d_CA_number_29 ?_
          refine vp_callSi (W.runV (As := [.int (S1.2 7 1)]) (rest := [.int x26]) ⟨hx, hb, hml, hown, hts⟩ (c_MT_signAt l D G S1 k (S1.2 7 1) N hI hk) (cwV 1 hts (gV kw350 kw160 kw161 kw2 kw162) rfl rfl rfl (by decide +kernel) ⟨by show (0 : Nat) + 1 ≤ 1; omega, by show 8 + (2 + 11) + 0 ≤ 21; omega⟩) ⟨blindR, va_recv (ci := 1) (q0 := 13 + 7 * k) hK hP rfl (wt_0 G S1 hk), fun U hU hW => ⟨rfl, rPre_of hP hK hN hU hW⟩⟩ rfl rfl hl.1 rfl (lv_room (Nat.le_of_ble_eq_true rfl)) d_CA_number_32 ⟨Nat.zero_le _, Nat.zero_le _⟩) (fun x32 ex32 => ?_)
          obtain rfl : x14 = x32 := ex14.trans ex32.symm
          refine lv_iadd hx hb d_CA_number_35 ?_
          refine lv_topi (fun x35 ex35 => ?_)
          refine lv_bipush (v := 48) hx hb d_CA_number_36 (by decide) ?_
          refine lv_isub hx hb d_CA_number_38 ?_
          refine lv_topi (fun x38 ex38 => ?_)
          refine lv_istore_n (lv' := [(2, .int x38), (3, .int y3), (0, .ref (aA G 7)), (1, .ref (tA G k 0))]) hx hb d_CA_number_39 rfl hl (by decide) rfl (fun ls hl => ?_)
          refine lv_aload_n hx hb d_CA_number_40 rfl (lv_at hl 2 rfl) ?_
          refine lv_dup hx hb d_CA_number_41 rfl ?_
          refine va_get (D := D) (ci := 4) (v := .int (S1.2 7 1)) (C := R_CA) (T := T_CA) (N := 2) hx hb hts (fun w h => List.mem_cons_of_mem _ (in_CA w h)) hown hK hP 7 (w_7 G S1) rfl 1 (by decide) (hts _ (List.mem_cons_of_mem _ kw82)) (fun _ h9 => h9) rfl d_CA_number_42 ?_
          refine lv_iconst (v := 1) hx hb d_CA_number_45 (by decide) ?_
          refine lv_iadd hx hb d_CA_number_46 ?_
          refine lv_topi (fun x46 ex46 => ?_)
          refine va_putE (D := D) (ci := 4) (v := .int x46) (ty := .int) (C := R_CA) (T := T_CA) (N := 2) hx hb hts (fun w h => List.mem_cons_of_mem _ (in_CA w h)) t_CA t_CA_ok n_CA hown hK hP hD hS 7 (w_7 G S1) rfl 1 (by decide) (hts _ (List.mem_cons_of_mem _ kw82)) (fun _ h9 => h9) rfl (by decide +kernel) rfl rfl (Nat.le_of_ble_eq_true rfl) (wst_7_1 G S1 x46) d_CA_number_47 (fun H locs hP hD hS => ?_)
          obtain ⟨S47, eS47⟩ : ∃ y : CS, y = stR S1 7 1 x46 := ⟨_, rfl⟩
          rw [← eS47] at hP hD
          have hI : IC N S47 := by rw [eS47]; exact IC_R hI _ _ _ (by decide)
          obtain ⟨x50, ex50⟩ : ∃ y : Int32, y = y3 + 1 := ⟨_, rfl⟩
          refine lv_iinc (v := x50) (lv' := [(3, .int x50), (2, .int x38), (0, .ref (aA G 7)), (1, .ref (tA G k 0))]) hx hb d_CA_number_50 hl (k := 1) rfl (by rw [ex50]; rfl) (by decide) rfl (fun ls hl => ?_)
          refine lv_goto (tgt := 4) hx hb d_CA_number_53 (by decide) ?_
          exact ih S47 x50 x38 (j + 1) _ _ ls ⟨by rw [ex50, hj]; exact nI_1 j, by omega, by omega⟩ (by rw [hF]; subst ex50; subst eS47; subst ex46; subst ex38; subst ex35; subst ex26; subst ex17; subst ex14; simp only [q_CA_number_4, if_neg c_6, if_neg c_20]) hP hD hS hI (lv_sub hl [0, 1, 2, 3] rfl)
  exact loop (fz 5) S 0 0 0 _ _ ls ⟨nI_0.symm, by omega, by rw [fz_eq]⟩ (by simp only [f_CA_number]) hP hD hS hI hl
def roomO (d : Nat) : Room := { frames := 3 + 2 * d, cells := 0, slots := 0, locals := 60 + 60 * d }
def roomE (d : Nat) : Room := { frames := 4 + 2 * d, cells := 0, slots := 0, locals := 90 + 60 * d }
def O_CA (l : Launch) (D : va_G) (G : GP) (d : Nat) : Prop := ∀ (S : CS) (sz k : Nat) (p2 : Int32) (N : Nat), IC N S → k < 3 → (∃ j : Nat, p2 = nI j ∧ j + d = 7) → Met l y_CA_operand ws_CA_operand (roomO d) (va_Pc [.ref (aA G 7), .ref (tA G k 0), .int p2] (cPre D G S sz)) (va_Qi (fun (r : Int32) (S' : CS) => (r, S') = f_CA_operand d S k p2 ∧ IC N S') (wB D G (va_A (wC G S) sz)) (va_A (wC G S) sz)) 0 0 (va_A (wC G S) sz)
def E_CA (l : Launch) (D : va_G) (G : GP) (d : Nat) : Prop := ∀ (S : CS) (sz k : Nat) (p2 : Int32) (N : Nat), IC N S → k < 3 → (∃ j : Nat, p2 = nI j ∧ j + d = 7) → Met l y_CA_expression ws_CA_expression (roomE d) (va_Pc [.ref (aA G 7), .ref (tA G k 0), .int p2] (cPre D G S sz)) (va_Qi (fun (r : Int32) (S' : CS) => (r, S') = f_CA_exprO (fun S => f_CA_operand d S k p2) S k ∧ IC N S') (wB D G (va_A (wC G S) sz)) (va_A (wC G S) sz)) 0 0 (va_A (wC G S) sz)
set_option maxHeartbeats 4000000 in
set_option maxRecDepth 100000 in
theorem c_CA_expression_of (l : Launch) (D : va_G) (G : GP) (d : Nat) (hO : O_CA l D G d) : E_CA l D G d := by
  intro S sz k p2 N hI hk hjj
  refine Met.ofW (cc := b_CA_expression) (maxL := 6) (ret := (some .int)) (by decide) rfl ?_
  intro p e s m args below meth c s₁ B hml hv
  obtain ⟨rfl, hsz, hP, hK, hD0, hN⟩ := hv
  have hx := B.exec
  have hb := B.bytes
  have hr := B.returns
  have hts := atoms_spec (ws := ws_CA_expression) B.pre
  have hown : s.vm.findClass R_CA = some m.cls := findClass_of_methodNamed B.named
  have hlocks := B.notSynchronized
  subst hsz
  have hD := hD0.self (sz := s.heap.size)
  generalize hAe : va_A (wC G S) s.heap.size = A at hD ⊢
  have hA : ∀ q : Nat, s.heap.size ≤ q → A q := fun q h => by rw [← hAe]; exact Or.inr h
  have hS : va_S A s.heap s.heap [] := va_S.rf
  have hl := lv_entry ([.ref (aA G 7), .ref (tA G k 0), .int p2]) (n := 6) (Nat.le_of_ble_eq_true rfl)
  rw [lg_entry_eq]
  generalize (lg_sl ([.ref (aA G 7), .ref (tA G k 0), .int p2]) ++ List.replicate (6 - (lg_sl ([.ref (aA G 7), .ref (tA G k 0), .int p2])).length) Slot.unset).toArray = ls at hl ⊢
  have hl : lv_has ls 6 [(0, .ref (aA G 7)), (1, .ref (tA G k 0)), (2, .int p2)] := hl
  refine lv_aload_n hx hb d_CA_expression_0 rfl (lv_at hl 0 rfl) ?_
  refine lv_aload_n hx hb d_CA_expression_1 rfl (lv_at hl 1 rfl) ?_
  refine lv_iload_n hx hb d_CA_expression_2 rfl (lv_at hl 2 rfl) ?_
  refine cq_i (va_runV (As := [.ref (tA G k 0), .int p2]) (rest := []) ⟨hx, hb, hml, hown, hts⟩ (hO S _ k p2 N hI hk hjj) (cwV 2 hts (gV kw347 kw348 kw649 kw5 kw349) rfl rfl rfl (by decide +kernel) ⟨by simp only [headSpec, roomO, roomE]; omega, by simp only [headSpec, roomO, roomE]; omega⟩) ⟨blindC, va_recv (ci := 4) (q0 := 7) hK hP rfl (w_7 G S), fun U hU hW => ⟨rfl, cPre_of hP hK hD hN hU hW⟩⟩ rfl rfl hl.1 rfl (lv_room (Nat.le_of_ble_eq_true rfl)) d_CA_expression_3 ⟨Nat.zero_le _, Nat.zero_le _⟩) hD hS hA (fun x3 S3 H locs hw hP hD hS => ?_)
  obtain ⟨hw, hI⟩ := hw
  have ex3 : x3 = (f_CA_operand d S k p2).1 := congrArg Prod.fst hw
  have eS3 : S3 = (f_CA_operand d S k p2).2 := congrArg Prod.snd hw
  clear hw
  refine lv_istore_n (lv' := [(3, .int x3), (0, .ref (aA G 7)), (1, .ref (tA G k 0)), (2, .int p2)]) hx hb d_CA_expression_6 rfl hl (by decide) rfl (fun ls hl => ?_)
  refine lv_iconst (v := 0) hx hb d_CA_expression_7 (by decide) ?_
  refine lv_istore (lv' := [(4, .int 0), (3, .int x3), (0, .ref (aA G 7)), (1, .ref (tA G k 0)), (2, .int p2)]) hx hb d_CA_expression_8 hl (by decide) rfl (fun ls hl => ?_)
  have loop : ∀ (n : Nat) (S1 : CS) (y4 : Int32) (y3 : Int32) (j : Nat) (H : Heap) (locs : List Loc) (ls : Array Slot), (y4 = nI j ∧ j ≤ 60 ∧ j + n = 61) → f_CA_exprO (fun S => f_CA_operand d S k p2) S k = q_CA_expression_10 n (fun S => f_CA_operand d S k p2) S1 k y4 y3 → va_P D vwCl (wC G S1) H → va_D A (wC G S1) → va_S A s.heap H locs → IC N S1 → lv_has ls 6 [(4, .int y4), (3, .int y3), (0, .ref (aA G 7)), (1, .ref (tA G k 0)), (2, .int p2)] → W p l e (headSpec ws_CA_expression (roomE d)).room s m ([.ref (aA G 7), .ref (tA G k 0), .int p2] : List Value).toArray below meth c H locs 0 0 (MQ below (va_Qi (fun (r : Int32) (S' : CS) => (r, S') = f_CA_exprO (fun S => f_CA_operand d S k p2) S k ∧ IC N S') (wB D G A) A) ([.ref (aA G 7), .ref (tA G k 0), .int p2] : List Value).toArray s 0 0 A) (F0 m 10 ls []) := by
    intro n
    induction n with
    | zero => intro S1 y4 y3 j H locs ls hi hF hP hD hS hI hl; exact absurd hi (by rintro ⟨-, h1, h2⟩; omega)
    | succ n ih =>
      intro S1 y4 y3 j H locs ls hi hF hP hD hS hI hl
      obtain ⟨hj, hjB, hjn⟩ := hi
      refine lv_iload hx hb d_CA_expression_10 (lv_at hl 0 rfl) ?_
      refine lv_bipush (v := 60) hx hb d_CA_expression_12 (by decide) ?_
      refine lv_icmp_ge (tgt := 68) hx hb d_CA_expression_14 (by decide) (fun c_14 => ?_) (fun c_14 => ?_)
      · refine lv_iload_n hx hb d_CA_expression_68 rfl (lv_at hl 1 rfl) ?_
        exact W.iret (v := y3) hx hb hr (fun t ht hW => ⟨⟨y3, S1, rfl, ⟨by rw [hF]; simp only [q_CA_expression_10, if_pos c_14], hI⟩, by rw [ht]; exact hP, hD⟩, hS.F ht⟩) hS.2.2 d_CA_expression_69
      · have hlt : j < 60 := Nat.lt_of_not_le (fun q => c_14 (by rw [hj]; exact nI_le (a := 60) q (by omega)))
        refine lv_aload_n hx hb d_CA_expression_17 rfl (lv_at hl 3 rfl) ?_
        refine lv_aload_n hx hb d_CA_expression_18 rfl (lv_at hl 2 rfl) ?_
        refine va_get (D := D) (ci := 4) (v := .int (S1.2 7 1)) (C := R_CA) (T := T_CA) (N := 2) hx hb hts (fun w h => List.mem_cons_of_mem _ (in_CA w h)) hown hK hP 7 (w_7 G S1) rfl 1 (by decide) (hts _ (List.mem_cons_of_mem _ kw82)) (fun _ h9 => h9) rfl d_CA_expression_19 ?_
        refine vp_callSi (W.runV (As := [.int (S1.2 7 1)]) (rest := []) ⟨hx, hb, hml, hown, hts⟩ (c_MT_signAt l D G S1 k (S1.2 7 1) N hI hk) (cwV 1 hts (gV kw350 kw160 kw161 kw2 kw162) rfl rfl rfl (by decide +kernel) ⟨by simp only [headSpec, roomO, roomE]; omega, by simp only [headSpec, roomO, roomE]; omega⟩) ⟨blindR, va_recv (ci := 1) (q0 := 13 + 7 * k) hK hP rfl (wt_0 G S1 hk), fun U hU hW => ⟨rfl, rPre_of hP hK hN hU hW⟩⟩ rfl rfl hl.1 rfl (lv_room (Nat.le_of_ble_eq_true rfl)) d_CA_expression_22 ⟨Nat.zero_le _, Nat.zero_le _⟩) (fun x22 ex22 => ?_)
        refine vp_callSi (va_runSN (As := [.int x22]) (rest := []) ⟨hx, hb, hml, hown, hts⟩ (c_GS_operationOf l x22) ⟨va_cnB 1 hts (gW kw231) rfl rfl rfl (hN.1 (R_CA, 36, y_GS_operationOf, "GateStack") (by decide +kernel)) (hts _ (List.mem_cons_of_mem _ kw1)) (by decide +kernel) ⟨by simp only [headSpec, roomO, roomE]; omega, by simp only [headSpec, roomO, roomE]; omega⟩, (hts _ (List.mem_cons_of_mem _ kw230)), trivial⟩ ⟨blindP, fun U hU hW => ⟨rfl, NW_warm hW hN⟩⟩ rfl rfl hl.1 rfl (lv_room (Nat.le_of_ble_eq_true rfl)) d_CA_expression_25 ⟨Nat.zero_le _, Nat.zero_le _⟩).run (fun x25 ex25 => ?_)
        refine lv_istore (lv' := [(5, .int x25), (4, .int y4), (3, .int y3), (0, .ref (aA G 7)), (1, .ref (tA G k 0)), (2, .int p2)]) hx hb d_CA_expression_28 hl (by decide) rfl (fun ls hl => ?_)
        refine lv_iload hx hb d_CA_expression_30 (lv_at hl 0 rfl) ?_
        refine lv_iconst (v := (-1)) hx hb d_CA_expression_32 (by decide) ?_
        refine lv_icmp_ne (tgt := 39) hx hb d_CA_expression_33 (by decide) (fun c_33 => ?_) (fun c_33 => ?_)
        · refine lv_aload_n hx hb d_CA_expression_39 rfl (lv_at hl 3 rfl) ?_
          refine lv_dup hx hb d_CA_expression_40 rfl ?_
          refine va_get (D := D) (ci := 4) (v := .int (S1.2 7 1)) (C := R_CA) (T := T_CA) (N := 2) hx hb hts (fun w h => List.mem_cons_of_mem _ (in_CA w h)) hown hK hP 7 (w_7 G S1) rfl 1 (by decide) (hts _ (List.mem_cons_of_mem _ kw82)) (fun _ h9 => h9) rfl d_CA_expression_41 ?_
          refine lv_iconst (v := 1) hx hb d_CA_expression_44 (by decide) ?_
          refine lv_iadd hx hb d_CA_expression_45 ?_
          refine lv_topi (fun x45 ex45 => ?_)
          refine va_putE (D := D) (ci := 4) (v := .int x45) (ty := .int) (C := R_CA) (T := T_CA) (N := 2) hx hb hts (fun w h => List.mem_cons_of_mem _ (in_CA w h)) t_CA t_CA_ok n_CA hown hK hP hD hS 7 (w_7 G S1) rfl 1 (by decide) (hts _ (List.mem_cons_of_mem _ kw82)) (fun _ h9 => h9) rfl (by decide +kernel) rfl rfl (Nat.le_of_ble_eq_true rfl) (wst_7_1 G S1 x45) d_CA_expression_46 (fun H locs hP hD hS => ?_)
          obtain ⟨S46, eS46⟩ : ∃ y : CS, y = stR S1 7 1 x45 := ⟨_, rfl⟩
          rw [← eS46] at hP hD
          have hI : IC N S46 := by rw [eS46]; exact IC_R hI _ _ _ (by decide)
          refine lv_iload hx hb d_CA_expression_49 (lv_at hl 0 rfl) ?_
          refine lv_iload_n hx hb d_CA_expression_51 rfl (lv_at hl 2 rfl) ?_
          refine lv_aload_n hx hb d_CA_expression_52 rfl (lv_at hl 3 rfl) ?_
          refine lv_aload_n hx hb d_CA_expression_53 rfl (lv_at hl 4 rfl) ?_
          refine lv_iload_n hx hb d_CA_expression_54 rfl (lv_at hl 5 rfl) ?_
          refine cq_i (va_runV (As := [.ref (tA G k 0), .int p2]) (rest := [.int y3, .int x25]) ⟨hx, hb, hml, hown, hts⟩ (hO S46 _ k p2 N hI hk hjj) (cwV 2 hts (gV kw347 kw348 kw649 kw5 kw349) rfl rfl rfl (by decide +kernel) ⟨by simp only [headSpec, roomO, roomE]; omega, by simp only [headSpec, roomO, roomE]; omega⟩) ⟨blindC, va_recv (ci := 4) (q0 := 7) hK hP rfl (w_7 G S46), fun U hU hW => ⟨rfl, cPre_of hP hK hD hN hU hW⟩⟩ rfl rfl hl.1 rfl (lv_room (Nat.le_of_ble_eq_true rfl)) d_CA_expression_55 ⟨Nat.zero_le _, Nat.zero_le _⟩) hD hS hA (fun x55 S55 H locs hw hP hD hS => ?_)
          obtain ⟨hw, hI⟩ := hw
          have ex55 : x55 = (f_CA_operand d S46 k p2).1 := congrArg Prod.fst hw
          have eS55 : S55 = (f_CA_operand d S46 k p2).2 := congrArg Prod.snd hw
          clear hw
          refine vp_callSi (va_runSN (As := [.int x25, .int y3, .int x55]) (rest := []) ⟨hx, hb, hml, hown, hts⟩ (c_GS_worked l x25 y3 x55) ⟨va_cnB 3 hts (gW kw355) rfl rfl rfl (hN.1 (R_CA, 39, y_GS_worked, "GateStack") (by decide +kernel)) (hts _ (List.mem_cons_of_mem _ kw1)) (by decide +kernel) ⟨by simp only [headSpec, roomO, roomE]; omega, by simp only [headSpec, roomO, roomE]; omega⟩, (hts _ (List.mem_cons_of_mem _ kw354)), trivial⟩ ⟨blindP, fun U hU hW => ⟨rfl, NW_warm hW hN⟩⟩ rfl rfl hl.1 rfl (lv_room (Nat.le_of_ble_eq_true rfl)) d_CA_expression_58 ⟨Nat.zero_le _, Nat.zero_le _⟩).run (fun x58 ex58 => ?_)
          refine lv_istore_n (lv' := [(3, .int x58), (5, .int x25), (4, .int y4), (0, .ref (aA G 7)), (1, .ref (tA G k 0)), (2, .int p2)]) hx hb d_CA_expression_61 rfl hl (by decide) rfl (fun ls hl => ?_)
          obtain ⟨x62, ex62⟩ : ∃ y : Int32, y = y4 + 1 := ⟨_, rfl⟩
          refine lv_iinc (v := x62) (lv' := [(4, .int x62), (3, .int x58), (5, .int x25), (0, .ref (aA G 7)), (1, .ref (tA G k 0)), (2, .int p2)]) hx hb d_CA_expression_62 hl (k := 2) rfl (by rw [ex62]; rfl) (by decide) rfl (fun ls hl => ?_)
          refine lv_goto (tgt := 10) hx hb d_CA_expression_65 (by decide) ?_
          exact ih S55 x62 x58 (j + 1) _ _ ls ⟨by rw [ex62, hj]; exact nI_1 j, by omega, by omega⟩ (by rw [hF]; subst ex62; subst ex58; subst eS55; subst ex55; subst eS46; subst ex45; subst ex25; subst ex22; simp only [q_CA_expression_10, if_neg c_14, if_neg c_33]) hP hD hS hI (lv_sub hl [0, 1, 3, 4, 5] rfl)
        · refine lv_goto (tgt := 68) hx hb d_CA_expression_36 (by decide) ?_
          refine lv_iload_n hx hb d_CA_expression_68 rfl (lv_at hl 2 rfl) ?_
          exact W.iret (v := y3) hx hb hr (fun t ht hW => ⟨⟨y3, S1, rfl, ⟨by rw [hF]; subst ex25; subst ex22; simp only [q_CA_expression_10, if_neg c_14, if_pos c_33], hI⟩, by rw [ht]; exact hP, hD⟩, hS.F ht⟩) hS.2.2 d_CA_expression_69
  exact loop (fz 61) S3 0 x3 0 _ _ ls ⟨nI_0.symm, by omega, by rw [fz_eq]⟩ (by subst eS3; subst ex3; simp only [f_CA_exprO]) hP hD hS hI hl
set_option maxHeartbeats 4000000 in
set_option maxRecDepth 100000 in
theorem c_CA_operand_step (l : Launch) (D : va_G) (G : GP) (d : Nat) (ih : 1 ≤ d → O_CA l D G d ∧ E_CA l D G d) : O_CA l D G (d + 1) := by
  intro S sz k p2 N hI hk hjj
  refine Met.ofW (cc := b_CA_operand) (maxL := 5) (ret := (some .int)) (by decide) rfl ?_
  intro p e s m args below meth c s₁ B hml hv
  obtain ⟨rfl, hsz, hP, hK, hD0, hN⟩ := hv
  have hx := B.exec
  have hb := B.bytes
  have hr := B.returns
  have hts := atoms_spec (ws := ws_CA_operand) B.pre
  have hown : s.vm.findClass R_CA = some m.cls := findClass_of_methodNamed B.named
  have hlocks := B.notSynchronized
  subst hsz
  have hD := hD0.self (sz := s.heap.size)
  generalize hAe : va_A (wC G S) s.heap.size = A at hD ⊢
  have hA : ∀ q : Nat, s.heap.size ≤ q → A q := fun q h => by rw [← hAe]; exact Or.inr h
  have hS : va_S A s.heap s.heap [] := va_S.rf
  have hl := lv_entry ([.ref (aA G 7), .ref (tA G k 0), .int p2]) (n := 5) (Nat.le_of_ble_eq_true rfl)
  rw [lg_entry_eq]
  generalize (lg_sl ([.ref (aA G 7), .ref (tA G k 0), .int p2]) ++ List.replicate (5 - (lg_sl ([.ref (aA G 7), .ref (tA G k 0), .int p2])).length) Slot.unset).toArray = ls at hl ⊢
  have hl : lv_has ls 5 [(0, .ref (aA G 7)), (1, .ref (tA G k 0)), (2, .int p2)] := hl
  obtain ⟨j, hj, hjd⟩ := hjj
  refine lv_aload_n hx hb d_CA_operand_0 rfl (lv_at hl 1 rfl) ?_
  refine lv_aload_n hx hb d_CA_operand_1 rfl (lv_at hl 0 rfl) ?_
  refine va_get (D := D) (ci := 4) (v := .int (S.2 7 1)) (C := R_CA) (T := T_CA) (N := 2) hx hb hts (fun w h => List.mem_cons_of_mem _ (in_CA w h)) hown hK hP 7 (w_7 G S) rfl 1 (by decide) (hts _ (List.mem_cons_of_mem _ kw82)) (fun _ h9 => h9) rfl d_CA_operand_2 ?_
  refine vp_callSi (W.runV (As := [.int (S.2 7 1)]) (rest := []) ⟨hx, hb, hml, hown, hts⟩ (c_MT_signAt l D G S k (S.2 7 1) N hI hk) (cwV 1 hts (gV kw350 kw160 kw161 kw2 kw162) rfl rfl rfl (by decide +kernel) ⟨by simp only [headSpec, roomO, roomE]; omega, by simp only [headSpec, roomO, roomE]; omega⟩) ⟨blindR, va_recv (ci := 1) (q0 := 13 + 7 * k) hK hP rfl (wt_0 G S hk), fun U hU hW => ⟨rfl, rPre_of hP hK hN hU hW⟩⟩ rfl rfl hl.1 rfl (lv_room (Nat.le_of_ble_eq_true rfl)) d_CA_operand_5 ⟨Nat.zero_le _, Nat.zero_le _⟩) (fun x5 ex5 => ?_)
  refine lv_istore_n (lv' := [(3, .int x5), (0, .ref (aA G 7)), (1, .ref (tA G k 0)), (2, .int p2)]) hx hb d_CA_operand_8 rfl hl (by decide) rfl (fun ls hl => ?_)
  refine lv_iload_n hx hb d_CA_operand_9 rfl (lv_at hl 0 rfl) ?_
  refine vp_callSi (va_runSN (As := [.int x5]) (rest := []) ⟨hx, hb, hml, hown, hts⟩ (c_GS_isDigit l x5) ⟨va_cnB 1 hts (gW kw223) rfl rfl rfl (hN.1 (R_CA, 43, y_GS_isDigit, "GateStack") (by decide +kernel)) (hts _ (List.mem_cons_of_mem _ kw1)) (by decide +kernel) ⟨by simp only [headSpec, roomO, roomE]; omega, by simp only [headSpec, roomO, roomE]; omega⟩, (hts _ (List.mem_cons_of_mem _ kw222)), trivial⟩ ⟨blindP, fun U hU hW => ⟨rfl, NW_warm hW hN⟩⟩ rfl rfl hl.1 rfl (lv_room (Nat.le_of_ble_eq_true rfl)) d_CA_operand_10 ⟨Nat.zero_le _, Nat.zero_le _⟩).run (fun x10 ex10 => ?_)
  obtain ⟨ex10, bx10⟩ := ex10
  refine lv_if_eq (tgt := 22) hx hb d_CA_operand_13 (by decide) (fun c_13 => ?_) (fun c_13 => ?_)
  · refine lv_aload_n hx hb d_CA_operand_22 rfl (lv_at hl 1 rfl) ?_
    refine lv_dup hx hb d_CA_operand_23 rfl ?_
    refine va_get (D := D) (ci := 4) (v := .int (S.2 7 1)) (C := R_CA) (T := T_CA) (N := 2) hx hb hts (fun w h => List.mem_cons_of_mem _ (in_CA w h)) hown hK hP 7 (w_7 G S) rfl 1 (by decide) (hts _ (List.mem_cons_of_mem _ kw82)) (fun _ h9 => h9) rfl d_CA_operand_24 ?_
    refine lv_iconst (v := 1) hx hb d_CA_operand_27 (by decide) ?_
    refine lv_iadd hx hb d_CA_operand_28 ?_
    refine lv_topi (fun x28 ex28 => ?_)
    refine va_putE (D := D) (ci := 4) (v := .int x28) (ty := .int) (C := R_CA) (T := T_CA) (N := 2) hx hb hts (fun w h => List.mem_cons_of_mem _ (in_CA w h)) t_CA t_CA_ok n_CA hown hK hP hD hS 7 (w_7 G S) rfl 1 (by decide) (hts _ (List.mem_cons_of_mem _ kw82)) (fun _ h9 => h9) rfl (by decide +kernel) rfl rfl (Nat.le_of_ble_eq_true rfl) (wst_7_1 G S x28) d_CA_operand_29 (fun H locs hP hD hS => ?_)
    obtain ⟨S29, eS29⟩ : ∃ y : CS, y = stR S 7 1 x28 := ⟨_, rfl⟩
    rw [← eS29] at hP hD
    have hI : IC N S29 := by rw [eS29]; exact IC_R hI _ _ _ (by decide)
    refine lv_iload_n hx hb d_CA_operand_32 rfl (lv_at hl 0 rfl) ?_
    refine vp_callSi (va_runSN (As := [.int x5]) (rest := []) ⟨hx, hb, hml, hown, hts⟩ (c_GS_isVariable l x5) ⟨va_cnB 1 hts (gW kw202) rfl rfl rfl (hN.1 (R_CA, 50, y_GS_isVariable, "GateStack") (by decide +kernel)) (hts _ (List.mem_cons_of_mem _ kw1)) (by decide +kernel) ⟨by simp only [headSpec, roomO, roomE]; omega, by simp only [headSpec, roomO, roomE]; omega⟩, (hts _ (List.mem_cons_of_mem _ kw201)), trivial⟩ ⟨blindP, fun U hU hW => ⟨rfl, NW_warm hW hN⟩⟩ rfl rfl hl.1 rfl (lv_room (Nat.le_of_ble_eq_true rfl)) d_CA_operand_33 ⟨Nat.zero_le _, Nat.zero_le _⟩).run (fun x33 ex33 => ?_)
    obtain ⟨ex33, bx33⟩ := ex33
    refine lv_if_eq (tgt := 49) hx hb d_CA_operand_36 (by decide) (fun c_36 => ?_) (fun c_36 => ?_)
    · refine lv_iload_n hx hb d_CA_operand_49 rfl (lv_at hl 3 rfl) ?_
      refine lv_bipush (v := 6) hx hb d_CA_operand_50 (by decide) ?_
      refine lv_icmp_lt (tgt := 57) hx hb d_CA_operand_52 (by decide) (fun c_52 => ?_) (fun c_52 => ?_)
      · have hj6 : j < 6 := by have q := i_lt 6 rfl c_52; rw [hj, nI_toInt (by omega)] at q; omega
        have hd : 1 ≤ d := by omega
        refine lv_iload_n hx hb d_CA_operand_57 rfl (lv_at hl 0 rfl) ?_
        refine lv_bipush (v := 126) hx hb d_CA_operand_58 (by decide) ?_
        refine lv_icmp_ne (tgt := 74) hx hb d_CA_operand_60 (by decide) (fun c_60 => ?_) (fun c_60 => ?_)
        · refine lv_iload_n hx hb d_CA_operand_74 rfl (lv_at hl 0 rfl) ?_
          refine lv_bipush (v := 45) hx hb d_CA_operand_75 (by decide) ?_
          refine lv_icmp_ne (tgt := 90) hx hb d_CA_operand_77 (by decide) (fun c_77 => ?_) (fun c_77 => ?_)
          · refine lv_aload_n hx hb d_CA_operand_90 rfl (lv_at hl 1 rfl) ?_
            refine lv_aload_n hx hb d_CA_operand_91 rfl (lv_at hl 2 rfl) ?_
            refine lv_iload_n hx hb d_CA_operand_92 rfl (lv_at hl 3 rfl) ?_
            refine lv_iconst (v := 1) hx hb d_CA_operand_93 (by decide) ?_
            refine lv_iadd hx hb d_CA_operand_94 ?_
            refine lv_topi (fun x94 ex94 => ?_)
            refine cq_i (va_runV (As := [.ref (tA G k 0), .int x94]) (rest := []) ⟨hx, hb, hml, hown, hts⟩ ((ih hd).2 S29 _ k x94 N hI hk ⟨j + 1, by rw [ex94, hj]; exact nI_1 j, by omega⟩) (cwV 2 hts (gV kw344 kw345 kw648 kw5 kw346) rfl rfl rfl (by decide +kernel) ⟨by simp only [headSpec, roomO, roomE]; omega, by simp only [headSpec, roomO, roomE]; omega⟩) ⟨blindC, va_recv (ci := 4) (q0 := 7) hK hP rfl (w_7 G S29), fun U hU hW => ⟨rfl, cPre_of hP hK hD hN hU hW⟩⟩ rfl rfl hl.1 rfl (lv_room (Nat.le_of_ble_eq_true rfl)) d_CA_operand_95 ⟨Nat.zero_le _, Nat.zero_le _⟩) hD hS hA (fun x95 S95 H locs hw hP hD hS => ?_)
            obtain ⟨hw, hI⟩ := hw
            have ex95 : x95 = (f_CA_exprO (fun S => f_CA_operand d S k x94) S29 k).1 := congrArg Prod.fst hw
            have eS95 : S95 = (f_CA_exprO (fun S => f_CA_operand d S k x94) S29 k).2 := congrArg Prod.snd hw
            clear hw
            refine lv_istore (lv' := [(4, .int x95), (3, .int x5), (0, .ref (aA G 7)), (1, .ref (tA G k 0)), (2, .int p2)]) hx hb d_CA_operand_98 hl (by decide) rfl (fun ls hl => ?_)
            refine lv_aload_n hx hb d_CA_operand_100 rfl (lv_at hl 2 rfl) ?_
            refine lv_dup hx hb d_CA_operand_101 rfl ?_
            refine va_get (D := D) (ci := 4) (v := .int (S95.2 7 1)) (C := R_CA) (T := T_CA) (N := 2) hx hb hts (fun w h => List.mem_cons_of_mem _ (in_CA w h)) hown hK hP 7 (w_7 G S95) rfl 1 (by decide) (hts _ (List.mem_cons_of_mem _ kw82)) (fun _ h9 => h9) rfl d_CA_operand_102 ?_
            refine lv_iconst (v := 1) hx hb d_CA_operand_105 (by decide) ?_
            refine lv_iadd hx hb d_CA_operand_106 ?_
            refine lv_topi (fun x106 ex106 => ?_)
            refine va_putE (D := D) (ci := 4) (v := .int x106) (ty := .int) (C := R_CA) (T := T_CA) (N := 2) hx hb hts (fun w h => List.mem_cons_of_mem _ (in_CA w h)) t_CA t_CA_ok n_CA hown hK hP hD hS 7 (w_7 G S95) rfl 1 (by decide) (hts _ (List.mem_cons_of_mem _ kw82)) (fun _ h9 => h9) rfl (by decide +kernel) rfl rfl (Nat.le_of_ble_eq_true rfl) (wst_7_1 G S95 x106) d_CA_operand_107 (fun H locs hP hD hS => ?_)
            obtain ⟨S107, eS107⟩ : ∃ y : CS, y = stR S95 7 1 x106 := ⟨_, rfl⟩
            rw [← eS107] at hP hD
            have hI : IC N S107 := by rw [eS107]; exact IC_R hI _ _ _ (by decide)
            refine lv_iload hx hb d_CA_operand_110 (lv_at hl 0 rfl) ?_
            exact W.iret (v := x95) hx hb hr (fun t ht hW => ⟨⟨x95, S107, rfl, ⟨by subst eS107; subst ex106; subst eS95; subst ex95; subst ex94; subst ex33; subst eS29; subst ex28; subst ex10; subst ex5; simp only [f_CA_operand, if_pos c_13, if_pos c_36, if_pos c_52, if_neg c_60, if_neg c_77], hI⟩, by rw [ht]; exact hP, hD⟩, hS.F ht⟩) hS.2.2 d_CA_operand_112
          · refine lv_aload_n hx hb d_CA_operand_80 rfl (lv_at hl 1 rfl) ?_
            refine lv_aload_n hx hb d_CA_operand_81 rfl (lv_at hl 2 rfl) ?_
            refine lv_iload_n hx hb d_CA_operand_82 rfl (lv_at hl 3 rfl) ?_
            refine lv_iconst (v := 1) hx hb d_CA_operand_83 (by decide) ?_
            refine lv_iadd hx hb d_CA_operand_84 ?_
            refine lv_topi (fun x84 ex84 => ?_)
            refine cq_i (va_runV (As := [.ref (tA G k 0), .int x84]) (rest := []) ⟨hx, hb, hml, hown, hts⟩ ((ih hd).1 S29 _ k x84 N hI hk ⟨j + 1, by rw [ex84, hj]; exact nI_1 j, by omega⟩) (cwV 2 hts (gV kw347 kw348 kw649 kw5 kw349) rfl rfl rfl (by decide +kernel) ⟨by simp only [headSpec, roomO, roomE]; omega, by simp only [headSpec, roomO, roomE]; omega⟩) ⟨blindC, va_recv (ci := 4) (q0 := 7) hK hP rfl (w_7 G S29), fun U hU hW => ⟨rfl, cPre_of hP hK hD hN hU hW⟩⟩ rfl rfl hl.1 rfl (lv_room (Nat.le_of_ble_eq_true rfl)) d_CA_operand_85 ⟨Nat.zero_le _, Nat.zero_le _⟩) hD hS hA (fun x85 S85 H locs hw hP hD hS => ?_)
            obtain ⟨hw, hI⟩ := hw
            have ex85 : x85 = (f_CA_operand d S29 k x84).1 := congrArg Prod.fst hw
            have eS85 : S85 = (f_CA_operand d S29 k x84).2 := congrArg Prod.snd hw
            clear hw
            refine lv_ineg hx hb d_CA_operand_88 ?_
            refine lv_topi (fun x88 ex88 => ?_)
            exact W.iret (v := x88) hx hb hr (fun t ht hW => ⟨⟨x88, S85, rfl, ⟨by subst ex88; subst eS85; subst ex85; subst ex84; subst ex33; subst eS29; subst ex28; subst ex10; subst ex5; simp only [f_CA_operand, if_pos c_13, if_pos c_36, if_pos c_52, if_neg c_60, if_pos c_77], hI⟩, by rw [ht]; exact hP, hD⟩, hS.F ht⟩) hS.2.2 d_CA_operand_89
        · refine lv_aload_n hx hb d_CA_operand_63 rfl (lv_at hl 1 rfl) ?_
          refine lv_aload_n hx hb d_CA_operand_64 rfl (lv_at hl 2 rfl) ?_
          refine lv_iload_n hx hb d_CA_operand_65 rfl (lv_at hl 3 rfl) ?_
          refine lv_iconst (v := 1) hx hb d_CA_operand_66 (by decide) ?_
          refine lv_iadd hx hb d_CA_operand_67 ?_
          refine lv_topi (fun x67 ex67 => ?_)
          refine cq_i (va_runV (As := [.ref (tA G k 0), .int x67]) (rest := []) ⟨hx, hb, hml, hown, hts⟩ ((ih hd).1 S29 _ k x67 N hI hk ⟨j + 1, by rw [ex67, hj]; exact nI_1 j, by omega⟩) (cwV 2 hts (gV kw347 kw348 kw649 kw5 kw349) rfl rfl rfl (by decide +kernel) ⟨by simp only [headSpec, roomO, roomE]; omega, by simp only [headSpec, roomO, roomE]; omega⟩) ⟨blindC, va_recv (ci := 4) (q0 := 7) hK hP rfl (w_7 G S29), fun U hU hW => ⟨rfl, cPre_of hP hK hD hN hU hW⟩⟩ rfl rfl hl.1 rfl (lv_room (Nat.le_of_ble_eq_true rfl)) d_CA_operand_68 ⟨Nat.zero_le _, Nat.zero_le _⟩) hD hS hA (fun x68 S68 H locs hw hP hD hS => ?_)
          obtain ⟨hw, hI⟩ := hw
          have ex68 : x68 = (f_CA_operand d S29 k x67).1 := congrArg Prod.fst hw
          have eS68 : S68 = (f_CA_operand d S29 k x67).2 := congrArg Prod.snd hw
          clear hw
          refine lv_iconst (v := (-1)) hx hb d_CA_operand_71 (by decide) ?_
          refine lv_ixor hx hb d_CA_operand_72 ?_
          refine lv_topi (fun x72 ex72 => ?_)
          exact W.iret (v := x72) hx hb hr (fun t ht hW => ⟨⟨x72, S68, rfl, ⟨by subst ex72; subst eS68; subst ex68; subst ex67; subst ex33; subst eS29; subst ex28; subst ex10; subst ex5; simp only [f_CA_operand, if_pos c_13, if_pos c_36, if_pos c_52, if_pos c_60], hI⟩, by rw [ht]; exact hP, hD⟩, hS.F ht⟩) hS.2.2 d_CA_operand_73
      · refine lv_iconst (v := 0) hx hb d_CA_operand_55 (by decide) ?_
        exact W.iret (v := 0) hx hb hr (fun t ht hW => ⟨⟨0, S29, rfl, ⟨by subst ex33; subst eS29; subst ex28; subst ex10; subst ex5; simp only [f_CA_operand, if_pos c_13, if_pos c_36, if_neg c_52], hI⟩, by rw [ht]; exact hP, hD⟩, hS.F ht⟩) hS.2.2 d_CA_operand_56
    · refine lv_aload_n hx hb d_CA_operand_39 rfl (lv_at hl 1 rfl) ?_
      refine va_get (D := D) (ci := 4) (v := .ref (aA G 8)) (C := R_CA) (T := T_CA) (N := 2) hx hb hts (fun w h => List.mem_cons_of_mem _ (in_CA w h)) hown hK hP 7 (w_7 G S29) rfl 0 (by decide) (hts _ (List.mem_cons_of_mem _ kw81)) (fun _ h9 => h9) rfl d_CA_operand_40 ?_
      refine lv_iload_n hx hb d_CA_operand_43 rfl (lv_at hl 0 rfl) ?_
      refine lv_bipush (v := 97) hx hb d_CA_operand_44 (by decide) ?_
      refine lv_isub hx hb d_CA_operand_46 ?_
      refine lv_topi (fun x46 ex46 => ?_)
      refine va_iald (D := D) hx hb hK hP 8 0 (w_8 G S29) rfl (by rw [ex46]; exact va_in (by rw [← ex33]; exact c_36)) d_CA_operand_47 ?_
      refine lv_topi (fun x47 ex47 => ?_)
      exact W.iret (v := x47) hx hb hr (fun t ht hW => ⟨⟨x47, S29, rfl, ⟨by subst ex47; subst ex46; subst ex33; subst eS29; subst ex28; subst ex10; subst ex5; simp only [f_CA_operand, if_pos c_13, if_neg c_36], hI⟩, by rw [ht]; exact hP, hD⟩, hS.F ht⟩) hS.2.2 d_CA_operand_48
  · refine lv_aload_n hx hb d_CA_operand_16 rfl (lv_at hl 1 rfl) ?_
    refine lv_aload_n hx hb d_CA_operand_17 rfl (lv_at hl 2 rfl) ?_
    refine cq_i (va_runV (As := [.ref (tA G k 0)]) (rest := []) ⟨hx, hb, hml, hown, hts⟩ (c_CA_number l D G S _ k N hI hk) (cwV 1 hts (gV kw351 kw352 kw650 kw5 kw353) rfl rfl rfl (by decide +kernel) ⟨by simp only [headSpec, roomO, roomE]; omega, by simp only [headSpec, roomO, roomE]; omega⟩) ⟨blindC, va_recv (ci := 4) (q0 := 7) hK hP rfl (w_7 G S), fun U hU hW => ⟨rfl, cPre_of hP hK hD hN hU hW⟩⟩ rfl rfl hl.1 rfl (lv_room (Nat.le_of_ble_eq_true rfl)) d_CA_operand_18 ⟨Nat.zero_le _, Nat.zero_le _⟩) hD hS hA (fun x18 S18 H locs hw hP hD hS => ?_)
    obtain ⟨hw, hI⟩ := hw
    have ex18 : x18 = (f_CA_number S k).1 := congrArg Prod.fst hw
    have eS18 : S18 = (f_CA_number S k).2 := congrArg Prod.snd hw
    clear hw
    exact W.iret (v := x18) hx hb hr (fun t ht hW => ⟨⟨x18, S18, rfl, ⟨by subst eS18; subst ex18; subst ex10; subst ex5; simp only [f_CA_operand, if_neg c_13], hI⟩, by rw [ht]; exact hP, hD⟩, hS.F ht⟩) hS.2.2 d_CA_operand_21
theorem c_CA_oe (l : Launch) (D : va_G) (G : GP) : ∀ d : Nat, 1 ≤ d → O_CA l D G d ∧ E_CA l D G d := by
  intro d
  induction d with
  | zero => intro h; omega
  | succ d ih =>
    intro _
    have hO := c_CA_operand_step l D G d ih
    exact ⟨hO, c_CA_expression_of l D G (d + 1) hO⟩
theorem c_CA_expr0 (l : Launch) (D : va_G) (G : GP) (S : CS) (sz k : Nat) (N : Nat) (hI : IC N S) (hk : k < 3) : Met l y_CA_expression ws_CA_expression ({ frames := 18, cells := 0, slots := 0, locals := 510 }) (va_Pc [.ref (aA G 7), .ref (tA G k 0), .int 0] (cPre D G S sz)) (va_Qi (fun (r : Int32) (S' : CS) => (r, S') = f_CA_expr0 S k ∧ IC N S') (wB D G (va_A (wC G S) sz)) (va_A (wC G S) sz)) 0 0 (va_A (wC G S) sz) := by
  have h := (c_CA_oe l D G (fz 7) (by rw [fz_eq]; decide)).2 S sz k 0 N hI hk ⟨0, nI_0.symm, by rw [fz_eq]⟩
  rw [show roomE (fz 7) = ({ frames := 18, cells := 0, slots := 0, locals := 510 } : Room) from by rw [fz_eq]; rfl] at h
  exact h
set_option maxHeartbeats 4000000 in
set_option maxRecDepth 100000 in
theorem c_CA_valueAt (l : Launch) (D : va_G) (G : GP) (S : CS) (sz : Nat) (k : Nat) (p2 : Int32) (N : Nat) (hI : IC N S) (hk : k < 3) : Met l y_CA_valueAt ws_CA_valueAt ({ frames := 19, cells := 0, slots := 0, locals := 535 }) (va_Pc [.ref (aA G 7), .ref (tA G k 0), .int p2] (cPre D G S sz)) (va_Qi (fun (r : Int32) (S' : CS) => (r, S') = f_CA_valueAt S k p2 ∧ IC N S') (wB D G (va_A (wC G S) sz)) (va_A (wC G S) sz)) 0 0 (va_A (wC G S) sz) := by
  refine Met.ofW (cc := b_CA_valueAt) (maxL := 3) (ret := (some .int)) (by decide) rfl ?_
  intro p e s m args below meth c s₁ B hml hv
  obtain ⟨rfl, hsz, hP, hK, hD0, hN⟩ := hv
  have hx := B.exec
  have hb := B.bytes
  have hr := B.returns
  have hts := atoms_spec (ws := ws_CA_valueAt) B.pre
  have hown : s.vm.findClass R_CA = some m.cls := findClass_of_methodNamed B.named
  have hlocks := B.notSynchronized
  subst hsz
  have hD := hD0.self (sz := s.heap.size)
  generalize hAe : va_A (wC G S) s.heap.size = A at hD ⊢
  have hA : ∀ q : Nat, s.heap.size ≤ q → A q := fun q h => by rw [← hAe]; exact Or.inr h
  have hS : va_S A s.heap s.heap [] := va_S.rf
  have hl := lv_entry ([.ref (aA G 7), .ref (tA G k 0), .int p2]) (n := 3) (Nat.le_of_ble_eq_true rfl)
  rw [lg_entry_eq]
  generalize (lg_sl ([.ref (aA G 7), .ref (tA G k 0), .int p2]) ++ List.replicate (3 - (lg_sl ([.ref (aA G 7), .ref (tA G k 0), .int p2])).length) Slot.unset).toArray = ls at hl ⊢
  have hl : lv_has ls 3 [(0, .ref (aA G 7)), (1, .ref (tA G k 0)), (2, .int p2)] := hl
  refine lv_aload_n hx hb d_CA_valueAt_0 rfl (lv_at hl 0 rfl) ?_
  refine lv_iload_n hx hb d_CA_valueAt_1 rfl (lv_at hl 2 rfl) ?_
  refine va_putE (D := D) (ci := 4) (v := .int p2) (ty := .int) (C := R_CA) (T := T_CA) (N := 2) hx hb hts (fun w h => List.mem_cons_of_mem _ (in_CA w h)) t_CA t_CA_ok n_CA hown hK hP hD hS 7 (w_7 G S) rfl 1 (by decide) (hts _ (List.mem_cons_of_mem _ kw82)) (fun _ h9 => h9) rfl (by decide +kernel) rfl rfl (Nat.le_of_ble_eq_true rfl) (wst_7_1 G S p2) d_CA_valueAt_2 (fun H locs hP hD hS => ?_)
  obtain ⟨S2, eS2⟩ : ∃ y : CS, y = stR S 7 1 p2 := ⟨_, rfl⟩
  rw [← eS2] at hP hD
  have hI : IC N S2 := by rw [eS2]; exact IC_R hI _ _ _ (by decide)
  refine lv_aload_n hx hb d_CA_valueAt_5 rfl (lv_at hl 0 rfl) ?_
  refine lv_aload_n hx hb d_CA_valueAt_6 rfl (lv_at hl 1 rfl) ?_
  refine lv_iconst (v := 0) hx hb d_CA_valueAt_7 (by decide) ?_
  refine cq_i (va_runV (As := [.ref (tA G k 0), .int 0]) (rest := []) ⟨hx, hb, hml, hown, hts⟩ (c_CA_expr0 l D G S2 _ k N hI hk) (cwV 2 hts (gV kw344 kw345 kw648 kw5 kw346) rfl rfl rfl (by decide +kernel) ⟨by show (18 : Nat) + 1 ≤ 19; omega, by show 8 + (6 + 11) + 510 ≤ 535; omega⟩) ⟨blindC, va_recv (ci := 4) (q0 := 7) hK hP rfl (w_7 G S2), fun U hU hW => ⟨rfl, cPre_of hP hK hD hN hU hW⟩⟩ rfl rfl hl.1 rfl (lv_room (Nat.le_of_ble_eq_true rfl)) d_CA_valueAt_8 ⟨Nat.zero_le _, Nat.zero_le _⟩) hD hS hA (fun x8 S8 H locs hw hP hD hS => ?_)
  obtain ⟨hw, hI⟩ := hw
  have ex8 : x8 = (f_CA_expr0 S2 k).1 := congrArg Prod.fst hw
  have eS8 : S8 = (f_CA_expr0 S2 k).2 := congrArg Prod.snd hw
  clear hw
  exact W.iret (v := x8) hx hb hr (fun t ht hW => ⟨⟨x8, S8, rfl, ⟨by subst eS8; subst ex8; subst eS2; simp only [f_CA_valueAt], hI⟩, by rw [ht]; exact hP, hD⟩, hS.F ht⟩) hS.2.2 d_CA_valueAt_11
set_option maxHeartbeats 4000000 in
set_option maxRecDepth 100000 in
theorem c_CA_cursor (l : Launch) (D : va_G) (G : GP) (S : CS) (N : Nat) (hI : IC N S) : Met l y_CA_cursor ws_CA_cursor ({ frames := 0, cells := 0, slots := 0, locals := 0 }) (va_Pc [.ref (aA G 7)] (rPre D G S)) (vp_Si (fun r => r = f_CA_cursor S)) 0 0 (fun _ => False) := by
  refine Met.ofW (cc := b_CA_cursor) (maxL := 1) (ret := (some .int)) (by decide) rfl ?_
  intro p e s m args below meth c s₁ B hml hv
  obtain ⟨rfl, hP, hK, hN⟩ := hv
  have hx := B.exec
  have hb := B.bytes
  have hr := B.returns
  have hts := atoms_spec (ws := ws_CA_cursor) B.pre
  have hown : s.vm.findClass R_CA = some m.cls := findClass_of_methodNamed B.named
  have hlocks := B.notSynchronized
  have hl := lv_entry ([.ref (aA G 7)]) (n := 1) (Nat.le_of_ble_eq_true rfl)
  rw [lg_entry_eq]
  generalize (lg_sl ([.ref (aA G 7)]) ++ List.replicate (1 - (lg_sl ([.ref (aA G 7)])).length) Slot.unset).toArray = ls at hl ⊢
  have hl : lv_has ls 1 [(0, .ref (aA G 7))] := hl
  refine lv_aload_n hx hb d_CA_cursor_0 rfl (lv_at hl 0 rfl) ?_
  refine va_get (D := D) (ci := 4) (v := .int (S.2 7 1)) (C := R_CA) (T := T_CA) (N := 2) hx hb hts (fun w h => List.mem_cons_of_mem _ (in_CA w h)) hown hK hP 7 (w_7 G S) rfl 1 (by decide) (hts _ (List.mem_cons_of_mem _ kw82)) (fun _ h9 => h9) rfl d_CA_cursor_1 ?_
  exact W.iret (v := (S.2 7 1)) hx hb hr (fun t ht hW => ⟨S.2 7 1, rfl, by simp only [f_CA_cursor], ht⟩) (fun q h => absurd h List.not_mem_nil) d_CA_cursor_4
set_option maxHeartbeats 4000000 in
set_option maxRecDepth 100000 in
theorem c_CA_assign (l : Launch) (D : va_G) (G : GP) (S : CS) (sz : Nat) (p1 : Int32) (p2 : Int32) (N : Nat) (hI : IC N S) : Met l y_CA_assign ws_CA_assign ({ frames := 1, cells := 0, slots := 0, locals := 20 }) (va_Pc [.ref (aA G 7), .int p1, .int p2] (cPre D G S sz)) (va_Qi (fun (r : Int32) (S' : CS) => (r, S') = f_CA_assign S p1 p2 ∧ IC N S' ∧ bl r) (wB D G (va_A (wC G S) sz)) (va_A (wC G S) sz)) 0 0 (va_A (wC G S) sz) := by
  refine Met.ofW (cc := b_CA_assign) (maxL := 3) (ret := (some .boolean)) (by decide) rfl ?_
  intro p e s m args below meth c s₁ B hml hv
  obtain ⟨rfl, hsz, hP, hK, hD0, hN⟩ := hv
  have hx := B.exec
  have hb := B.bytes
  have hr := B.returns
  have hts := atoms_spec (ws := ws_CA_assign) B.pre
  have hown : s.vm.findClass R_CA = some m.cls := findClass_of_methodNamed B.named
  have hlocks := B.notSynchronized
  subst hsz
  have hD := hD0.self (sz := s.heap.size)
  generalize hAe : va_A (wC G S) s.heap.size = A at hD ⊢
  have hA : ∀ q : Nat, s.heap.size ≤ q → A q := fun q h => by rw [← hAe]; exact Or.inr h
  have hS : va_S A s.heap s.heap [] := va_S.rf
  have hl := lv_entry ([.ref (aA G 7), .int p1, .int p2]) (n := 3) (Nat.le_of_ble_eq_true rfl)
  rw [lg_entry_eq]
  generalize (lg_sl ([.ref (aA G 7), .int p1, .int p2]) ++ List.replicate (3 - (lg_sl ([.ref (aA G 7), .int p1, .int p2])).length) Slot.unset).toArray = ls at hl ⊢
  have hl : lv_has ls 3 [(0, .ref (aA G 7)), (1, .int p1), (2, .int p2)] := hl
  refine lv_iload_n hx hb d_CA_assign_0 rfl (lv_at hl 1 rfl) ?_
  refine vp_callSi (va_runSN (As := [.int p1]) (rest := []) ⟨hx, hb, hml, hown, hts⟩ (c_GS_isVariableNumber l p1) ⟨va_cnB 1 hts (gW kw365) rfl rfl rfl (hN.1 (R_CA, 15, y_GS_isVariableNumber, "GateStack") (by decide +kernel)) (hts _ (List.mem_cons_of_mem _ kw1)) (by decide +kernel) ⟨by show (0 : Nat) + 1 ≤ 1; omega, by show 8 + (1 + 11) + 0 ≤ 20; omega⟩, (hts _ (List.mem_cons_of_mem _ kw364)), trivial⟩ ⟨blindP, fun U hU hW => ⟨rfl, NW_warm hW hN⟩⟩ rfl rfl hl.1 rfl (lv_room (Nat.le_of_ble_eq_true rfl)) d_CA_assign_1 ⟨Nat.zero_le _, Nat.zero_le _⟩).run (fun x1 ex1 => ?_)
  obtain ⟨ex1, bx1⟩ := ex1
  refine lv_if_ne (tgt := 9) hx hb d_CA_assign_4 (by decide) (fun c_4 => ?_) (fun c_4 => ?_)
  · refine lv_aload_n hx hb d_CA_assign_9 rfl (lv_at hl 0 rfl) ?_
    refine va_get (D := D) (ci := 4) (v := .ref (aA G 8)) (C := R_CA) (T := T_CA) (N := 2) hx hb hts (fun w h => List.mem_cons_of_mem _ (in_CA w h)) hown hK hP 7 (w_7 G S) rfl 0 (by decide) (hts _ (List.mem_cons_of_mem _ kw81)) (fun _ h9 => h9) rfl d_CA_assign_10 ?_
    refine lv_iload_n hx hb d_CA_assign_13 rfl (lv_at hl 1 rfl) ?_
    refine lv_iload_n hx hb d_CA_assign_14 rfl (lv_at hl 2 rfl) ?_
    refine va_iastE (D := D) hx hb hK hP hD hS 8 0 (w_8 G S) rfl (vn_in (by rw [← ex1]; exact c_4)) (wsta_8 G S p1.toNatClampNeg p2) d_CA_assign_15 (fun H locs hP hD hS => ?_)
    obtain ⟨S15, eS15⟩ : ∃ y : CS, y = stR S 8 p1.toNatClampNeg p2 := ⟨_, rfl⟩
    rw [← eS15] at hP hD
    have hI : IC N S15 := by rw [eS15]; exact IC_A hI _ _ _ (by decide)
    refine lv_iconst (v := 1) hx hb d_CA_assign_16 (by decide) ?_
    exact W.zret (v := 1) hx hb hr (bl_nar (Or.inr rfl)) (fun t ht hW => ⟨⟨1, S15, rfl, ⟨by subst eS15; subst ex1; simp only [f_CA_assign, if_neg c_4], hI, (Or.inr rfl)⟩, by rw [ht]; exact hP, hD⟩, hS.F ht⟩) hS.2.2 d_CA_assign_17
  · refine lv_iconst (v := 0) hx hb d_CA_assign_7 (by decide) ?_
    exact W.zret (v := 0) hx hb hr (bl_nar (Or.inl rfl)) (fun t ht hW => ⟨⟨0, S, rfl, ⟨by subst ex1; simp only [f_CA_assign, if_pos c_4], hI, (Or.inl rfl)⟩, by rw [ht]; exact hP, hD⟩, hS.F ht⟩) hS.2.2 d_CA_assign_8
set_option maxHeartbeats 4000000 in
set_option maxRecDepth 100000 in
theorem c_CA_variable (l : Launch) (D : va_G) (G : GP) (S : CS) (p1 : Int32) (N : Nat) (hI : IC N S) : Met l y_CA_variable ws_CA_variable ({ frames := 1, cells := 0, slots := 0, locals := 20 }) (va_Pc [.ref (aA G 7), .int p1] (rPre D G S)) (vp_Si (fun r => r = f_CA_variable S p1)) 0 0 (fun _ => False) := by
  refine Met.ofW (cc := b_CA_variable) (maxL := 2) (ret := (some .int)) (by decide) rfl ?_
  intro p e s m args below meth c s₁ B hml hv
  obtain ⟨rfl, hP, hK, hN⟩ := hv
  have hx := B.exec
  have hb := B.bytes
  have hr := B.returns
  have hts := atoms_spec (ws := ws_CA_variable) B.pre
  have hown : s.vm.findClass R_CA = some m.cls := findClass_of_methodNamed B.named
  have hlocks := B.notSynchronized
  have hl := lv_entry ([.ref (aA G 7), .int p1]) (n := 2) (Nat.le_of_ble_eq_true rfl)
  rw [lg_entry_eq]
  generalize (lg_sl ([.ref (aA G 7), .int p1]) ++ List.replicate (2 - (lg_sl ([.ref (aA G 7), .int p1])).length) Slot.unset).toArray = ls at hl ⊢
  have hl : lv_has ls 2 [(0, .ref (aA G 7)), (1, .int p1)] := hl
  refine lv_iload_n hx hb d_CA_variable_0 rfl (lv_at hl 1 rfl) ?_
  refine vp_callSi (va_runSN (As := [.int p1]) (rest := []) ⟨hx, hb, hml, hown, hts⟩ (c_GS_isVariableNumber l p1) ⟨va_cnB 1 hts (gW kw365) rfl rfl rfl (hN.1 (R_CA, 15, y_GS_isVariableNumber, "GateStack") (by decide +kernel)) (hts _ (List.mem_cons_of_mem _ kw1)) (by decide +kernel) ⟨by show (0 : Nat) + 1 ≤ 1; omega, by show 8 + (1 + 11) + 0 ≤ 20; omega⟩, (hts _ (List.mem_cons_of_mem _ kw364)), trivial⟩ ⟨blindP, fun U hU hW => ⟨rfl, NW_warm hW hN⟩⟩ rfl rfl hl.1 rfl (lv_room (Nat.le_of_ble_eq_true rfl)) d_CA_variable_1 ⟨Nat.zero_le _, Nat.zero_le _⟩).run (fun x1 ex1 => ?_)
  obtain ⟨ex1, bx1⟩ := ex1
  refine lv_if_eq (tgt := 16) hx hb d_CA_variable_4 (by decide) (fun c_4 => ?_) (fun c_4 => ?_)
  · refine lv_iconst (v := 0) hx hb d_CA_variable_16 (by decide) ?_
    exact W.iret (v := 0) hx hb hr (fun t ht hW => ⟨0, rfl, by subst ex1; simp only [f_CA_variable, if_pos c_4], ht⟩) (fun q h => absurd h List.not_mem_nil) d_CA_variable_17
  · refine lv_aload_n hx hb d_CA_variable_7 rfl (lv_at hl 0 rfl) ?_
    refine va_get (D := D) (ci := 4) (v := .ref (aA G 8)) (C := R_CA) (T := T_CA) (N := 2) hx hb hts (fun w h => List.mem_cons_of_mem _ (in_CA w h)) hown hK hP 7 (w_7 G S) rfl 0 (by decide) (hts _ (List.mem_cons_of_mem _ kw81)) (fun _ h9 => h9) rfl d_CA_variable_8 ?_
    refine lv_iload_n hx hb d_CA_variable_11 rfl (lv_at hl 1 rfl) ?_
    refine va_iald (D := D) hx hb hK hP 8 0 (w_8 G S) rfl (vn_in (by rw [← ex1]; exact c_4)) d_CA_variable_12 ?_
    refine lv_topi (fun x12 ex12 => ?_)
    refine lv_goto (tgt := 17) hx hb d_CA_variable_13 (by decide) ?_
    exact W.iret (v := x12) hx hb hr (fun t ht hW => ⟨x12, rfl, by subst ex12; subst ex1; simp only [f_CA_variable, if_neg c_4], ht⟩) (fun q h => absurd h List.not_mem_nil) d_CA_variable_17
