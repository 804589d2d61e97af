set_option maxHeartbeats 4000000 in
set_option maxRecDepth 100000 in
theorem c_GM_in (l : Launch) (p0 : Int32) (p1 : Int32) (p2 : Int32) : Met l y_GM_in ws_GM_in ({ frames := 0, cells := 0, slots := 0, locals := 0 }) (va_Pc [.int p0, .int p1, .int p2] (fun _ => True)) (vp_Si (fun r => r = f_GM_in p0 p1 p2 ∧ bl r)) 0 0 (fun _ => False) := by
  refine Met.ofW (cc := b_GM_in) (maxL := 3) (ret := (some .boolean)) (by decide) rfl ?_
  intro p e s m args below meth c s₁ B hml hv
  obtain ⟨rfl, -⟩ := hv
  have hx := B.exec
  have hb := B.bytes
  have hr := B.returns
  have hts := atoms_spec (ws := ws_GM_in) B.pre
  have hown : s.vm.findClass R_GM = some m.cls := findClass_of_methodNamed B.named
  have hlocks := B.notSynchronized
  have hl := lv_entry ([.int p0, .int p1, .int p2]) (n := 3) (Nat.le_of_ble_eq_true rfl)
  rw [lg_entry_eq]
  generalize (lg_sl ([.int p0, .int p1, .int p2]) ++ List.replicate (3 - (lg_sl ([.int p0, .int p1, .int p2])).length) Slot.unset).toArray = ls at hl ⊢
  have hl : lv_has ls 3 [(0, .int p0), (1, .int p1), (2, .int p2)] := hl
  refine lv_iload_n hx hb d_GM_in_0 rfl (lv_at hl 0 rfl) ?_
  refine lv_iload_n hx hb d_GM_in_1 rfl (lv_at hl 1 rfl) ?_
  refine lv_icmp_lt (tgt := 14) hx hb d_GM_in_2 (by decide) (fun c_2 => ?_) (fun c_2 => ?_)
  · refine lv_iconst (v := 0) hx hb d_GM_in_14 (by decide) ?_
    exact W.zret (v := 0) hx hb hr (bl_nar (Or.inl rfl)) (fun t ht hW => ⟨0, rfl, ⟨by simp only [f_GM_in, if_pos c_2], (Or.inl rfl)⟩, ht⟩) (fun q h => absurd h List.not_mem_nil) d_GM_in_15
  · refine lv_iload_n hx hb d_GM_in_5 rfl (lv_at hl 0 rfl) ?_
    refine lv_iload_n hx hb d_GM_in_6 rfl (lv_at hl 2 rfl) ?_
    refine lv_icmp_gt (tgt := 14) hx hb d_GM_in_7 (by decide) (fun c_7 => ?_) (fun c_7 => ?_)
    · refine lv_iconst (v := 0) hx hb d_GM_in_14 (by decide) ?_
      exact W.zret (v := 0) hx hb hr (bl_nar (Or.inl rfl)) (fun t ht hW => ⟨0, rfl, ⟨by simp only [f_GM_in, if_neg c_2, if_pos c_7], (Or.inl rfl)⟩, ht⟩) (fun q h => absurd h List.not_mem_nil) d_GM_in_15
    · refine lv_iconst (v := 1) hx hb d_GM_in_10 (by decide) ?_
      refine lv_goto (tgt := 15) hx hb d_GM_in_11 (by decide) ?_
      exact W.zret (v := 1) hx hb hr (bl_nar (Or.inr rfl)) (fun t ht hW => ⟨1, rfl, ⟨by simp only [f_GM_in, if_neg c_2, if_neg c_7], (Or.inr rfl)⟩, ht⟩) (fun q h => absurd h List.not_mem_nil) d_GM_in_15
set_option maxHeartbeats 4000000 in
set_option maxRecDepth 100000 in
theorem c_GM_unlink (l : Launch) (D : va_G) (G : MP) (S : MS) (sz : Nat) (R : MS) (hF : f_GM_unlink S  = some R) : Met l y_GM_unlink ws_GM_unlink ({ frames := 0, cells := 0, slots := 0, locals := 0 }) (va_Pc [.ref (mA G 0)] (mPre D G S sz)) (va_Qv (fun S' : MS => S' = R) (wX D G (va_A (wM G S) sz)) (va_A (wM G S) sz)) 0 0 (va_A (wM G S) sz) := by
  refine Met.ofW (cc := b_GM_unlink) (maxL := 1) (ret := none) (by decide) rfl ?_
  intro p e s m args below meth c s₁ B hml hv
  obtain ⟨rfl, hsz, hP, hK, hD0⟩ := hv
  have hx := B.exec
  have hb := B.bytes
  have hr := B.returns
  have hts := atoms_spec (ws := ws_GM_unlink) B.pre
  have hown : s.vm.findClass R_GM = some m.cls := findClass_of_methodNamed B.named
  have hlocks := B.notSynchronized
  subst hsz
  have hD := hD0.self (sz := s.heap.size)
  generalize hAe : va_A (wM G S) s.heap.size = A at hD ⊢
  have hA : ∀ q : Nat, s.heap.size ≤ q → A q := fun q h => by rw [← hAe]; exact Or.inr h
  have hS : va_S A s.heap s.heap [] := va_S.rf
  have hl := lv_entry ([.ref (mA G 0)]) (n := 1) (Nat.le_of_ble_eq_true rfl)
  rw [lg_entry_eq]
  generalize (lg_sl ([.ref (mA G 0)]) ++ List.replicate (1 - (lg_sl ([.ref (mA G 0)])).length) Slot.unset).toArray = ls at hl ⊢
  have hl : lv_has ls 1 [(0, .ref (mA G 0))] := hl
  unfold f_GM_unlink at hF
  refine lv_aload_n hx hb d_GM_unlink_0 rfl (lv_at hl 0 rfl) ?_
  refine lv_iconst (v := 0) hx hb d_GM_unlink_1 (by decide) ?_
  refine va_putE (D := D) (ci := 6) (v := .int 0) (ty := .boolean) (C := R_GM) (T := T_GM) (N := 30) hx hb hts (fun w h => List.mem_cons_of_mem _ (in_GM w h)) t_GM t_GM_ok n_GM hown hK hP hD hS 0 (m_0 G S) rfl 3 (by decide) (hts _ (List.mem_cons_of_mem _ kw447)) (fun _ h9 => h9) rfl (by decide +kernel) (bl_nar (Or.inl rfl)) (bl_fit (Or.inl rfl)) (Nat.le_of_ble_eq_true rfl) (mst_3 G S 0) d_GM_unlink_2 (fun H locs hP hD hS => ?_)
  obtain ⟨S2, eS2⟩ : ∃ y : MS, y = stM S 0 3 0 := ⟨_, rfl⟩
  rw [← eS2] at hP hD
  have hF := lt_of hF eS2
  refine lv_aload_n hx hb d_GM_unlink_5 rfl (lv_at hl 0 rfl) ?_
  refine lv_iconst (v := 0) hx hb d_GM_unlink_6 (by decide) ?_
  refine va_putE (D := D) (ci := 6) (v := .int 0) (ty := .boolean) (C := R_GM) (T := T_GM) (N := 30) hx hb hts (fun w h => List.mem_cons_of_mem _ (in_GM w h)) t_GM t_GM_ok n_GM hown hK hP hD hS 0 (m_0 G S2) rfl 20 (by decide) (hts _ (List.mem_cons_of_mem _ kw464)) (fun _ h9 => h9) rfl (by decide +kernel) (bl_nar (Or.inl rfl)) (bl_fit (Or.inl rfl)) (Nat.le_of_ble_eq_true rfl) (mst_20 G S2 0) d_GM_unlink_7 (fun H locs hP hD hS => ?_)
  obtain ⟨S7, eS7⟩ : ∃ y : MS, y = stM S2 0 20 0 := ⟨_, rfl⟩
  rw [← eS7] at hP hD
  have hF := lt_of hF eS7
  exact W.vret hx hb hr (fun t ht hW => ⟨⟨S7, rfl, Option.some.inj hF, by rw [ht]; exact hP, hD⟩, hS.F ht⟩) hS.2.2 d_GM_unlink_10
set_option maxHeartbeats 4000000 in
set_option maxRecDepth 100000 in
theorem c_GM_sign (l : Launch) (D : va_G) (G : MP) (S : MS) (sz : Nat) (p1 : Int32) (p2 : Int32) (R : (Int32 × MS)) (hF : f_GM_sign S p1 p2 = some R) : Met l y_GM_sign ws_GM_sign ({ frames := 1, cells := 0, slots := 0, locals := 22 }) (va_Pc [.ref (mA G 0), .int p1, .int p2] (mPre D G S sz)) (va_Qi (fun (r : Int32) (S' : MS) => (r, S') = R) (wX D G (va_A (wM G S) sz)) (va_A (wM G S) sz)) 0 0 (va_A (wM G S) sz) := by
  refine Met.ofW (cc := b_GM_sign) (maxL := 3) (ret := (some .int)) (by decide) rfl ?_
  intro p e s m args below meth c s₁ B hml hv
  obtain ⟨rfl, hsz, hP, hK, hD0⟩ := hv
  have hx := B.exec
  have hb := B.bytes
  have hr := B.returns
  have hts := atoms_spec (ws := ws_GM_sign) B.pre
  have hown : s.vm.findClass R_GM = some m.cls := findClass_of_methodNamed B.named
  have hlocks := B.notSynchronized
  subst hsz
  have hD := hD0.self (sz := s.heap.size)
  generalize hAe : va_A (wM G S) s.heap.size = A at hD ⊢
  have hA : ∀ q : Nat, s.heap.size ≤ q → A q := fun q h => by rw [← hAe]; exact Or.inr h
  have hS : va_S A s.heap s.heap [] := va_S.rf
  have hl := lv_entry ([.ref (mA G 0), .int p1, .int p2]) (n := 3) (Nat.le_of_ble_eq_true rfl)
  rw [lg_entry_eq]
  generalize (lg_sl ([.ref (mA G 0), .int p1, .int p2]) ++ List.replicate (3 - (lg_sl ([.ref (mA G 0), .int p1, .int p2])).length) Slot.unset).toArray = ls at hl ⊢
  have hl : lv_has ls 3 [(0, .ref (mA G 0)), (1, .int p1), (2, .int p2)] := hl
  unfold f_GM_sign at hF
  refine lv_iload_n hx hb d_GM_sign_0 rfl (lv_at hl 1 rfl) ?_
  refine lv_iconst (v := 0) hx hb d_GM_sign_1 (by decide) ?_
  refine lv_iconst (v := 2) hx hb d_GM_sign_2 (by decide) ?_
  refine vp_callSi (W.runS (As := [.int p1, .int 0, .int 2]) (rest := []) ⟨hx, hb, hml, hown, hts⟩ (c_GM_in l p1 0 2) (cwS 3 hts (gS kw510 kw511 kw7 kw512) rfl rfl rfl (by decide +kernel) ⟨by show (0 : Nat) + 1 ≤ 1; omega, by show 8 + (3 + 11) + 0 ≤ 22; omega⟩) ⟨blindNM, fun U hU hW => ⟨rfl, trivial⟩⟩ rfl rfl hl.1 rfl (lv_room (Nat.le_of_ble_eq_true rfl)) d_GM_sign_3 ⟨Nat.zero_le _, Nat.zero_le _⟩) (fun x3 ex3 => ?_)
  obtain ⟨ex3, bx3⟩ := ex3
  have hF := lt_of hF ex3
  obtain ⟨k31, hk31, hF⟩ := jn_of hF
  have join31 : ∀ (T1 : MS) (H : Heap) (locs : List Loc) (ls : Array Slot), k31 T1 = some R → va_P D vwCl (wM G T1) H → va_D A (wM G T1) → va_S A s.heap H locs → lv_has ls 3 [(0, .ref (mA G 0)), (1, .int p1), (2, .int p2)] → W p l e (headSpec ws_GM_sign ({ frames := 1, cells := 0, slots := 0, locals := 22 })).room s m ([.ref (mA G 0), .int p1, .int p2] : List Value).toArray below meth c H locs 0 0 (MQ below (va_Qi (fun (r : Int32) (S' : MS) => (r, S') = R) (wX D G A) A) ([.ref (mA G 0), .int p1, .int p2] : List Value).toArray s 0 0 A) (F0 m 31 ls []) := by
    intro T31 H locs ls hF hP hD hS hl
    rw [hk31] at hF
    refine lv_iconst (v := (-1)) hx hb d_GM_sign_31 (by decide) ?_
    exact W.iret (v := (-1)) hx hb hr (fun t ht hW => ⟨⟨(-1), T31, rfl, Option.some.inj hF, by rw [ht]; exact hP, hD⟩, hS.F ht⟩) hS.2.2 d_GM_sign_32
  refine lv_if_eq (tgt := 31) hx hb d_GM_sign_6 (by decide) (fun c_6 => ?_) (fun c_6 => ?_)
  · have hF := ps_of c_6 hF
    exact join31 S _ _ ls hF hP hD hS (lv_sub hl [0, 1, 2] rfl)
  · have hF := ng_of c_6 hF
    refine lv_iload_n hx hb d_GM_sign_9 rfl (lv_at hl 2 rfl) ?_
    refine lv_bipush (v := 33) hx hb d_GM_sign_10 (by decide) ?_
    refine lv_bipush (v := 126) hx hb d_GM_sign_12 (by decide) ?_
    refine vp_callSi (W.runS (As := [.int p2, .int 33, .int 126]) (rest := []) ⟨hx, hb, hml, hown, hts⟩ (c_GM_in l p2 33 126) (cwS 3 hts (gS kw510 kw511 kw7 kw512) rfl rfl rfl (by decide +kernel) ⟨by show (0 : Nat) + 1 ≤ 1; omega, by show 8 + (3 + 11) + 0 ≤ 22; omega⟩) ⟨blindNM, fun U hU hW => ⟨rfl, trivial⟩⟩ rfl rfl hl.1 rfl (lv_room (Nat.le_of_ble_eq_true rfl)) d_GM_sign_14 ⟨Nat.zero_le _, Nat.zero_le _⟩) (fun x14 ex14 => ?_)
    obtain ⟨ex14, bx14⟩ := ex14
    have hF := lt_of hF ex14
    refine lv_if_eq (tgt := 31) hx hb d_GM_sign_17 (by decide) (fun c_17 => ?_) (fun c_17 => ?_)
    · have hF := ps_of c_17 hF
      exact join31 S _ _ ls hF hP hD hS (lv_sub hl [0, 1, 2] rfl)
    · have hF := ng_of c_17 hF
      refine lv_aload_n hx hb d_GM_sign_20 rfl (lv_at hl 0 rfl) ?_
      refine va_get (D := D) (ci := 6) (v := .ref (mA G 2)) (C := R_GM) (T := T_GM) (N := 30) hx hb hts (fun w h => List.mem_cons_of_mem _ (in_GM w h)) hown hK hP 0 (m_0 G S) rfl 1 (by decide) (hts _ (List.mem_cons_of_mem _ kw445)) (fun _ h9 => h9) rfl d_GM_sign_21 ?_
      refine lv_iload_n hx hb d_GM_sign_24 rfl (lv_at hl 1 rfl) ?_
      obtain ⟨g25, hF⟩ := gd_of hF
      refine va_iald (D := D) hx hb hK hP 2 0 (m_2 G S) rfl (ix_in g25) d_GM_sign_25 ?_
      refine lv_topi (fun x25 ex25 => ?_)
      have hF := lt_of hF ex25
      refine lv_bipush (v := 60) hx hb d_GM_sign_26 (by decide) ?_
      refine lv_icmp_ne (tgt := 33) hx hb d_GM_sign_28 (by decide) (fun c_28 => ?_) (fun c_28 => ?_)
      · have hF := ng_of c_28 hF
        refine lv_aload_n hx hb d_GM_sign_33 rfl (lv_at hl 0 rfl) ?_
        refine va_get (D := D) (ci := 6) (v := .ref (mA G 1)) (C := R_GM) (T := T_GM) (N := 30) hx hb hts (fun w h => List.mem_cons_of_mem _ (in_GM w h)) hown hK hP 0 (m_0 G S) rfl 0 (by decide) (hts _ (List.mem_cons_of_mem _ kw444)) (fun _ h9 => h9) rfl d_GM_sign_34 ?_
        refine lv_bipush (v := 60) hx hb d_GM_sign_37 (by decide) ?_
        refine lv_iload_n hx hb d_GM_sign_39 rfl (lv_at hl 1 rfl) ?_
        refine lv_imul hx hb d_GM_sign_40 ?_
        refine lv_topi (fun x40 ex40 => ?_)
        have hF := lt_of hF ex40
        refine lv_aload_n hx hb d_GM_sign_41 rfl (lv_at hl 0 rfl) ?_
        refine va_get (D := D) (ci := 6) (v := .ref (mA G 2)) (C := R_GM) (T := T_GM) (N := 30) hx hb hts (fun w h => List.mem_cons_of_mem _ (in_GM w h)) hown hK hP 0 (m_0 G S) rfl 1 (by decide) (hts _ (List.mem_cons_of_mem _ kw445)) (fun _ h9 => h9) rfl d_GM_sign_42 ?_
        refine lv_iload_n hx hb d_GM_sign_45 rfl (lv_at hl 1 rfl) ?_
        obtain ⟨g46, hF⟩ := gd_of hF
        refine va_iald (D := D) hx hb hK hP 2 0 (m_2 G S) rfl (ix_in g46) d_GM_sign_46 ?_
        refine lv_topi (fun x46 ex46 => ?_)
        have hF := lt_of hF ex46
        refine lv_iadd hx hb d_GM_sign_47 ?_
        refine lv_topi (fun x47 ex47 => ?_)
        have hF := lt_of hF ex47
        refine lv_iload_n hx hb d_GM_sign_48 rfl (lv_at hl 2 rfl) ?_
        obtain ⟨g49, hF⟩ := gd_of hF
        refine va_iastE (D := D) hx hb hK hP hD hS 1 0 (m_1 G S) rfl (ix_in g49) (msta_1 G S x47.toNatClampNeg p2) d_GM_sign_49 (fun H locs hP hD hS => ?_)
        obtain ⟨S49, eS49⟩ : ∃ y : MS, y = stM S 1 x47.toNatClampNeg p2 := ⟨_, rfl⟩
        rw [← eS49] at hP hD
        have hF := lt_of hF eS49
        refine lv_aload_n hx hb d_GM_sign_50 rfl (lv_at hl 0 rfl) ?_
        refine va_get (D := D) (ci := 6) (v := .ref (mA G 2)) (C := R_GM) (T := T_GM) (N := 30) hx hb hts (fun w h => List.mem_cons_of_mem _ (in_GM w h)) hown hK hP 0 (m_0 G S49) rfl 1 (by decide) (hts _ (List.mem_cons_of_mem _ kw445)) (fun _ h9 => h9) rfl d_GM_sign_51 ?_
        refine lv_iload_n hx hb d_GM_sign_54 rfl (lv_at hl 1 rfl) ?_
        refine lv_dup2_11 hx hb d_GM_sign_55 rfl rfl ?_
        obtain ⟨g56, hF⟩ := gd_of hF
        refine va_iald (D := D) hx hb hK hP 2 0 (m_2 G S49) rfl (ix_in g56) d_GM_sign_56 ?_
        refine lv_topi (fun x56 ex56 => ?_)
        have hF := lt_of hF ex56
        refine lv_iconst (v := 1) hx hb d_GM_sign_57 (by decide) ?_
        refine lv_iadd hx hb d_GM_sign_58 ?_
        refine lv_topi (fun x58 ex58 => ?_)
        have hF := lt_of hF ex58
        obtain ⟨g59, hF⟩ := gd_of hF
        refine va_iastE (D := D) hx hb hK hP hD hS 2 0 (m_2 G S49) rfl (ix_in g59) (msta_2 G S49 p1.toNatClampNeg x58) d_GM_sign_59 (fun H locs hP hD hS => ?_)
        obtain ⟨S59, eS59⟩ : ∃ y : MS, y = stM S49 2 p1.toNatClampNeg x58 := ⟨_, rfl⟩
        rw [← eS59] at hP hD
        have hF := lt_of hF eS59
        refine lv_aload_n hx hb d_GM_sign_60 rfl (lv_at hl 0 rfl) ?_
        refine va_get (D := D) (ci := 6) (v := .ref (mA G 3)) (C := R_GM) (T := T_GM) (N := 30) hx hb hts (fun w h => List.mem_cons_of_mem _ (in_GM w h)) hown hK hP 0 (m_0 G S59) rfl 2 (by decide) (hts _ (List.mem_cons_of_mem _ kw446)) (fun _ h9 => h9) rfl d_GM_sign_61 ?_
        refine lv_iload_n hx hb d_GM_sign_64 rfl (lv_at hl 1 rfl) ?_
        refine lv_iconst (v := 0) hx hb d_GM_sign_65 (by decide) ?_
        obtain ⟨g66, hF⟩ := gd_of hF
        refine va_zastE (D := D) hx hb hK hP hD hS 3 1 (m_3 G S59) rfl (ix_in g66) (Or.inl rfl) (msta_3 G S59 p1.toNatClampNeg 0) d_GM_sign_66 (fun H locs hP hD hS => ?_)
        obtain ⟨S66, eS66⟩ : ∃ y : MS, y = stM S59 3 p1.toNatClampNeg 0 := ⟨_, rfl⟩
        rw [← eS66] at hP hD
        have hF := lt_of hF eS66
        refine lv_aload_n hx hb d_GM_sign_67 rfl (lv_at hl 0 rfl) ?_
        obtain ⟨S68, hq68, hF⟩ := bd_of hF
        refine dq_v (va_runV (As := []) (rest := []) ⟨hx, hb, hml, hown, hts⟩ (c_GM_unlink l D G S66 _  S68 hq68) (cwV 0 hts (gV kw513 kw514 kw652 kw7 kw515) rfl rfl rfl (by decide +kernel) ⟨by show (0 : Nat) + 1 ≤ 1; omega, by show 8 + (1 + 11) + 0 ≤ 22; omega⟩) ⟨blindM, va_recv (ci := 6) (q0 := 0) hK hP rfl (m_0 G S66), fun U hU hW => ⟨rfl, mPre_of hP hK hD hU hW⟩⟩ rfl rfl hl.1 rfl (lv_room (Nat.le_of_ble_eq_true rfl)) d_GM_sign_68 ⟨Nat.zero_le _, Nat.zero_le _⟩) hD hS hA (fun rS68 H locs hw hP hD hS => ?_)
        have hw := hw.symm
        subst hw
        refine lv_aload_n hx hb d_GM_sign_71 rfl (lv_at hl 0 rfl) ?_
        refine va_get (D := D) (ci := 6) (v := .ref (mA G 2)) (C := R_GM) (T := T_GM) (N := 30) hx hb hts (fun w h => List.mem_cons_of_mem _ (in_GM w h)) hown hK hP 0 (m_0 G S68) rfl 1 (by decide) (hts _ (List.mem_cons_of_mem _ kw445)) (fun _ h9 => h9) rfl d_GM_sign_72 ?_
        refine lv_iload_n hx hb d_GM_sign_75 rfl (lv_at hl 1 rfl) ?_
        obtain ⟨g76, hF⟩ := gd_of hF
        refine va_iald (D := D) hx hb hK hP 2 0 (m_2 G S68) rfl (ix_in g76) d_GM_sign_76 ?_
        refine lv_topi (fun x76 ex76 => ?_)
        have hF := lt_of hF ex76
        exact W.iret (v := x76) hx hb hr (fun t ht hW => ⟨⟨x76, S68, rfl, Option.some.inj hF, by rw [ht]; exact hP, hD⟩, hS.F ht⟩) hS.2.2 d_GM_sign_77
      · have hF := ps_of c_28 hF
        exact join31 S _ _ ls hF hP hD hS (lv_sub hl [0, 1, 2] rfl)
set_option maxHeartbeats 4000000 in
set_option maxRecDepth 100000 in
theorem c_GM_clear (l : Launch) (D : va_G) (G : MP) (S : MS) (sz : Nat) (p1 : Int32) (R : (Int32 × MS)) (hF : f_GM_clear S p1 = some R) : Met l y_GM_clear ws_GM_clear ({ frames := 1, cells := 0, slots := 0, locals := 22 }) (va_Pc [.ref (mA G 0), .int p1] (mPre D G S sz)) (va_Qi (fun (r : Int32) (S' : MS) => (r, S') = R) (wX D G (va_A (wM G S) sz)) (va_A (wM G S) sz)) 0 0 (va_A (wM G S) sz) := by
  refine Met.ofW (cc := b_GM_clear) (maxL := 2) (ret := (some .int)) (by decide) rfl ?_
  intro p e s m args below meth c s₁ B hml hv
  obtain ⟨rfl, hsz, hP, hK, hD0⟩ := hv
  have hx := B.exec
  have hb := B.bytes
  have hr := B.returns
  have hts := atoms_spec (ws := ws_GM_clear) B.pre
  have hown : s.vm.findClass R_GM = some m.cls := findClass_of_methodNamed B.named
  have hlocks := B.notSynchronized
  subst hsz
  have hD := hD0.self (sz := s.heap.size)
  generalize hAe : va_A (wM G S) s.heap.size = A at hD ⊢
  have hA : ∀ q : Nat, s.heap.size ≤ q → A q := fun q h => by rw [← hAe]; exact Or.inr h
  have hS : va_S A s.heap s.heap [] := va_S.rf
  have hl := lv_entry ([.ref (mA G 0), .int p1]) (n := 2) (Nat.le_of_ble_eq_true rfl)
  rw [lg_entry_eq]
  generalize (lg_sl ([.ref (mA G 0), .int p1]) ++ List.replicate (2 - (lg_sl ([.ref (mA G 0), .int p1])).length) Slot.unset).toArray = ls at hl ⊢
  have hl : lv_has ls 2 [(0, .ref (mA G 0)), (1, .int p1)] := hl
  unfold f_GM_clear at hF
  refine lv_iload_n hx hb d_GM_clear_0 rfl (lv_at hl 1 rfl) ?_
  refine lv_iconst (v := 0) hx hb d_GM_clear_1 (by decide) ?_
  refine lv_iconst (v := 2) hx hb d_GM_clear_2 (by decide) ?_
  refine vp_callSi (W.runS (As := [.int p1, .int 0, .int 2]) (rest := []) ⟨hx, hb, hml, hown, hts⟩ (c_GM_in l p1 0 2) (cwS 3 hts (gS kw510 kw511 kw7 kw512) rfl rfl rfl (by decide +kernel) ⟨by show (0 : Nat) + 1 ≤ 1; omega, by show 8 + (3 + 11) + 0 ≤ 22; omega⟩) ⟨blindNM, fun U hU hW => ⟨rfl, trivial⟩⟩ rfl rfl hl.1 rfl (lv_room (Nat.le_of_ble_eq_true rfl)) d_GM_clear_3 ⟨Nat.zero_le _, Nat.zero_le _⟩) (fun x3 ex3 => ?_)
  obtain ⟨ex3, bx3⟩ := ex3
  have hF := lt_of hF ex3
  refine lv_if_ne (tgt := 11) hx hb d_GM_clear_6 (by decide) (fun c_6 => ?_) (fun c_6 => ?_)
  · have hF := ng_of c_6 hF
    refine lv_aload_n hx hb d_GM_clear_11 rfl (lv_at hl 0 rfl) ?_
    refine va_get (D := D) (ci := 6) (v := .ref (mA G 2)) (C := R_GM) (T := T_GM) (N := 30) hx hb hts (fun w h => List.mem_cons_of_mem _ (in_GM w h)) hown hK hP 0 (m_0 G S) rfl 1 (by decide) (hts _ (List.mem_cons_of_mem _ kw445)) (fun _ h9 => h9) rfl d_GM_clear_12 ?_
    refine lv_iload_n hx hb d_GM_clear_15 rfl (lv_at hl 1 rfl) ?_
    refine lv_iconst (v := 0) hx hb d_GM_clear_16 (by decide) ?_
    obtain ⟨g17, hF⟩ := gd_of hF
    refine va_iastE (D := D) hx hb hK hP hD hS 2 0 (m_2 G S) rfl (ix_in g17) (msta_2 G S p1.toNatClampNeg 0) d_GM_clear_17 (fun H locs hP hD hS => ?_)
    obtain ⟨S17, eS17⟩ : ∃ y : MS, y = stM S 2 p1.toNatClampNeg 0 := ⟨_, rfl⟩
    rw [← eS17] at hP hD
    have hF := lt_of hF eS17
    refine lv_aload_n hx hb d_GM_clear_18 rfl (lv_at hl 0 rfl) ?_
    refine va_get (D := D) (ci := 6) (v := .ref (mA G 3)) (C := R_GM) (T := T_GM) (N := 30) hx hb hts (fun w h => List.mem_cons_of_mem _ (in_GM w h)) hown hK hP 0 (m_0 G S17) rfl 2 (by decide) (hts _ (List.mem_cons_of_mem _ kw446)) (fun _ h9 => h9) rfl d_GM_clear_19 ?_
    refine lv_iload_n hx hb d_GM_clear_22 rfl (lv_at hl 1 rfl) ?_
    refine lv_iconst (v := 1) hx hb d_GM_clear_23 (by decide) ?_
    obtain ⟨g24, hF⟩ := gd_of hF
    refine va_zastE (D := D) hx hb hK hP hD hS 3 1 (m_3 G S17) rfl (ix_in g24) (Or.inr rfl) (msta_3 G S17 p1.toNatClampNeg 1) d_GM_clear_24 (fun H locs hP hD hS => ?_)
    obtain ⟨S24, eS24⟩ : ∃ y : MS, y = stM S17 3 p1.toNatClampNeg 1 := ⟨_, rfl⟩
    rw [← eS24] at hP hD
    have hF := lt_of hF eS24
    refine lv_aload_n hx hb d_GM_clear_25 rfl (lv_at hl 0 rfl) ?_
    obtain ⟨S26, hq26, hF⟩ := bd_of hF
    refine dq_v (va_runV (As := []) (rest := []) ⟨hx, hb, hml, hown, hts⟩ (c_GM_unlink l D G S24 _  S26 hq26) (cwV 0 hts (gV kw513 kw514 kw652 kw7 kw515) rfl rfl rfl (by decide +kernel) ⟨by show (0 : Nat) + 1 ≤ 1; omega, by show 8 + (1 + 11) + 0 ≤ 22; omega⟩) ⟨blindM, va_recv (ci := 6) (q0 := 0) hK hP rfl (m_0 G S24), fun U hU hW => ⟨rfl, mPre_of hP hK hD hU hW⟩⟩ rfl rfl hl.1 rfl (lv_room (Nat.le_of_ble_eq_true rfl)) d_GM_clear_26 ⟨Nat.zero_le _, Nat.zero_le _⟩) hD hS hA (fun rS26 H locs hw hP hD hS => ?_)
    have hw := hw.symm
    subst hw
    refine lv_iconst (v := 0) hx hb d_GM_clear_29 (by decide) ?_
    exact W.iret (v := 0) hx hb hr (fun t ht hW => ⟨⟨0, S26, rfl, Option.some.inj hF, by rw [ht]; exact hP, hD⟩, hS.F ht⟩) hS.2.2 d_GM_clear_30
  · have hF := ps_of c_6 hF
    refine lv_iconst (v := (-1)) hx hb d_GM_clear_9 (by decide) ?_
    exact W.iret (v := (-1)) hx hb hr (fun t ht hW => ⟨⟨(-1), S, rfl, Option.some.inj hF, by rw [ht]; exact hP, hD⟩, hS.F ht⟩) hS.2.2 d_GM_clear_10
set_option maxHeartbeats 4000000 in
set_option maxRecDepth 100000 in
theorem c_GM_isVariable (l : Launch) (p0 : Int32) : Met l y_GM_isVariable ws_GM_isVariable ({ frames := 1, cells := 0, slots := 0, locals := 22 }) (va_Pc [.int p0] (fun _ => True)) (vp_Si (fun r => r = f_GM_isVariable p0 ∧ bl r)) 0 0 (fun _ => False) := by
  refine Met.ofW (cc := b_GM_isVariable) (maxL := 1) (ret := (some .boolean)) (by decide) rfl ?_
  intro p e s m args below meth c s₁ B hml hv
  obtain ⟨rfl, -⟩ := hv
  have hx := B.exec
  have hb := B.bytes
  have hr := B.returns
  have hts := atoms_spec (ws := ws_GM_isVariable) B.pre
  have hown : s.vm.findClass R_GM = some m.cls := findClass_of_methodNamed B.named
  have hlocks := B.notSynchronized
  have hl := lv_entry ([.int p0]) (n := 1) (Nat.le_of_ble_eq_true rfl)
  rw [lg_entry_eq]
  generalize (lg_sl ([.int p0]) ++ List.replicate (1 - (lg_sl ([.int p0])).length) Slot.unset).toArray = ls at hl ⊢
  have hl : lv_has ls 1 [(0, .int p0)] := hl
  refine lv_iload_n hx hb d_GM_isVariable_0 rfl (lv_at hl 0 rfl) ?_
  refine lv_bipush (v := 97) hx hb d_GM_isVariable_1 (by decide) ?_
  refine lv_bipush (v := 104) hx hb d_GM_isVariable_3 (by decide) ?_
  refine vp_callSi (W.runS (As := [.int p0, .int 97, .int 104]) (rest := []) ⟨hx, hb, hml, hown, hts⟩ (c_GM_in l p0 97 104) (cwS 3 hts (gS kw510 kw511 kw7 kw512) rfl rfl rfl (by decide +kernel) ⟨by show (0 : Nat) + 1 ≤ 1; omega, by show 8 + (3 + 11) + 0 ≤ 22; omega⟩) ⟨blindNM, fun U hU hW => ⟨rfl, trivial⟩⟩ rfl rfl hl.1 rfl (lv_room (Nat.le_of_ble_eq_true rfl)) d_GM_isVariable_5 ⟨Nat.zero_le _, Nat.zero_le _⟩) (fun x5 ex5 => ?_)
  obtain ⟨ex5, bx5⟩ := ex5
  exact W.zret (v := x5) hx hb hr (bl_nar bx5) (fun t ht hW => ⟨x5, rfl, ⟨by subst ex5; simp only [f_GM_isVariable], bx5⟩, ht⟩) (fun q h => absurd h List.not_mem_nil) d_GM_isVariable_8
set_option maxHeartbeats 4000000 in
set_option maxRecDepth 100000 in
theorem c_GM_isLetter (l : Launch) (p0 : Int32) : Met l y_GM_isLetter ws_GM_isLetter ({ frames := 1, cells := 0, slots := 0, locals := 22 }) (va_Pc [.int p0] (fun _ => True)) (vp_Si (fun r => r = f_GM_isLetter p0 ∧ bl r)) 0 0 (fun _ => False) := by
  refine Met.ofW (cc := b_GM_isLetter) (maxL := 1) (ret := (some .boolean)) (by decide) rfl ?_
  intro p e s m args below meth c s₁ B hml hv
  obtain ⟨rfl, -⟩ := hv
  have hx := B.exec
  have hb := B.bytes
  have hr := B.returns
  have hts := atoms_spec (ws := ws_GM_isLetter) B.pre
  have hown : s.vm.findClass R_GM = some m.cls := findClass_of_methodNamed B.named
  have hlocks := B.notSynchronized
  have hl := lv_entry ([.int p0]) (n := 1) (Nat.le_of_ble_eq_true rfl)
  rw [lg_entry_eq]
  generalize (lg_sl ([.int p0]) ++ List.replicate (1 - (lg_sl ([.int p0])).length) Slot.unset).toArray = ls at hl ⊢
  have hl : lv_has ls 1 [(0, .int p0)] := hl
  refine lv_iload_n hx hb d_GM_isLetter_0 rfl (lv_at hl 0 rfl) ?_
  refine lv_bipush (v := 65) hx hb d_GM_isLetter_1 (by decide) ?_
  refine lv_bipush (v := 90) hx hb d_GM_isLetter_3 (by decide) ?_
  refine vp_callSi (W.runS (As := [.int p0, .int 65, .int 90]) (rest := []) ⟨hx, hb, hml, hown, hts⟩ (c_GM_in l p0 65 90) (cwS 3 hts (gS kw510 kw511 kw7 kw512) rfl rfl rfl (by decide +kernel) ⟨by show (0 : Nat) + 1 ≤ 1; omega, by show 8 + (3 + 11) + 0 ≤ 22; omega⟩) ⟨blindNM, fun U hU hW => ⟨rfl, trivial⟩⟩ rfl rfl hl.1 rfl (lv_room (Nat.le_of_ble_eq_true rfl)) d_GM_isLetter_5 ⟨Nat.zero_le _, Nat.zero_le _⟩) (fun x5 ex5 => ?_)
  obtain ⟨ex5, bx5⟩ := ex5
  exact W.zret (v := x5) hx hb hr (bl_nar bx5) (fun t ht hW => ⟨x5, rfl, ⟨by subst ex5; simp only [f_GM_isLetter], bx5⟩, ht⟩) (fun q h => absurd h List.not_mem_nil) d_GM_isLetter_8
set_option maxHeartbeats 4000000 in
set_option maxRecDepth 100000 in
theorem c_GM_isOperator (l : Launch) (p0 : Int32) : Met l y_GM_isOperator ws_GM_isOperator ({ frames := 0, cells := 0, slots := 0, locals := 0 }) (va_Pc [.int p0] (fun _ => True)) (vp_Si (fun r => r = f_GM_isOperator p0 ∧ bl r)) 0 0 (fun _ => False) := by
  refine Met.ofW (cc := b_GM_isOperator) (maxL := 1) (ret := (some .boolean)) (by decide) rfl ?_
  intro p e s m args below meth c s₁ B hml hv
  obtain ⟨rfl, -⟩ := hv
  have hx := B.exec
  have hb := B.bytes
  have hr := B.returns
  have hts := atoms_spec (ws := ws_GM_isOperator) B.pre
  have hown : s.vm.findClass R_GM = some m.cls := findClass_of_methodNamed B.named
  have hlocks := B.notSynchronized
  have hl := lv_entry ([.int p0]) (n := 1) (Nat.le_of_ble_eq_true rfl)
  rw [lg_entry_eq]
  generalize (lg_sl ([.int p0]) ++ List.replicate (1 - (lg_sl ([.int p0])).length) Slot.unset).toArray = ls at hl ⊢
  have hl : lv_has ls 1 [(0, .int p0)] := hl
  refine lv_iload_n hx hb d_GM_isOperator_0 rfl (lv_at hl 0 rfl) ?_
  refine lv_bipush (v := 43) hx hb d_GM_isOperator_1 (by decide) ?_
  refine lv_icmp_eq (tgt := 42) hx hb d_GM_isOperator_3 (by decide) (fun c_3 => ?_) (fun c_3 => ?_)
  · refine lv_iconst (v := 1) hx hb d_GM_isOperator_42 (by decide) ?_
    refine lv_goto (tgt := 47) hx hb d_GM_isOperator_43 (by decide) ?_
    exact W.zret (v := 1) hx hb hr (bl_nar (Or.inr rfl)) (fun t ht hW => ⟨1, rfl, ⟨by simp only [f_GM_isOperator, if_pos c_3], (Or.inr rfl)⟩, ht⟩) (fun q h => absurd h List.not_mem_nil) d_GM_isOperator_47
  · refine lv_iload_n hx hb d_GM_isOperator_6 rfl (lv_at hl 0 rfl) ?_
    refine lv_bipush (v := 45) hx hb d_GM_isOperator_7 (by decide) ?_
    refine lv_icmp_eq (tgt := 42) hx hb d_GM_isOperator_9 (by decide) (fun c_9 => ?_) (fun c_9 => ?_)
    · refine lv_iconst (v := 1) hx hb d_GM_isOperator_42 (by decide) ?_
      refine lv_goto (tgt := 47) hx hb d_GM_isOperator_43 (by decide) ?_
      exact W.zret (v := 1) hx hb hr (bl_nar (Or.inr rfl)) (fun t ht hW => ⟨1, rfl, ⟨by simp only [f_GM_isOperator, if_neg c_3, if_pos c_9], (Or.inr rfl)⟩, ht⟩) (fun q h => absurd h List.not_mem_nil) d_GM_isOperator_47
    · refine lv_iload_n hx hb d_GM_isOperator_12 rfl (lv_at hl 0 rfl) ?_
      refine lv_bipush (v := 38) hx hb d_GM_isOperator_13 (by decide) ?_
      refine lv_icmp_eq (tgt := 42) hx hb d_GM_isOperator_15 (by decide) (fun c_15 => ?_) (fun c_15 => ?_)
      · refine lv_iconst (v := 1) hx hb d_GM_isOperator_42 (by decide) ?_
        refine lv_goto (tgt := 47) hx hb d_GM_isOperator_43 (by decide) ?_
        exact W.zret (v := 1) hx hb hr (bl_nar (Or.inr rfl)) (fun t ht hW => ⟨1, rfl, ⟨by simp only [f_GM_isOperator, if_neg c_3, if_neg c_9, if_pos c_15], (Or.inr rfl)⟩, ht⟩) (fun q h => absurd h List.not_mem_nil) d_GM_isOperator_47
      · refine lv_iload_n hx hb d_GM_isOperator_18 rfl (lv_at hl 0 rfl) ?_
        refine lv_bipush (v := 124) hx hb d_GM_isOperator_19 (by decide) ?_
        refine lv_icmp_eq (tgt := 42) hx hb d_GM_isOperator_21 (by decide) (fun c_21 => ?_) (fun c_21 => ?_)
        · refine lv_iconst (v := 1) hx hb d_GM_isOperator_42 (by decide) ?_
          refine lv_goto (tgt := 47) hx hb d_GM_isOperator_43 (by decide) ?_
          exact W.zret (v := 1) hx hb hr (bl_nar (Or.inr rfl)) (fun t ht hW => ⟨1, rfl, ⟨by simp only [f_GM_isOperator, if_neg c_3, if_neg c_9, if_neg c_15, if_pos c_21], (Or.inr rfl)⟩, ht⟩) (fun q h => absurd h List.not_mem_nil) d_GM_isOperator_47
        · refine lv_iload_n hx hb d_GM_isOperator_24 rfl (lv_at hl 0 rfl) ?_
          refine lv_bipush (v := 94) hx hb d_GM_isOperator_25 (by decide) ?_
          refine lv_icmp_eq (tgt := 42) hx hb d_GM_isOperator_27 (by decide) (fun c_27 => ?_) (fun c_27 => ?_)
          · refine lv_iconst (v := 1) hx hb d_GM_isOperator_42 (by decide) ?_
            refine lv_goto (tgt := 47) hx hb d_GM_isOperator_43 (by decide) ?_
            exact W.zret (v := 1) hx hb hr (bl_nar (Or.inr rfl)) (fun t ht hW => ⟨1, rfl, ⟨by simp only [f_GM_isOperator, if_neg c_3, if_neg c_9, if_neg c_15, if_neg c_21, if_pos c_27], (Or.inr rfl)⟩, ht⟩) (fun q h => absurd h List.not_mem_nil) d_GM_isOperator_47
          · refine lv_iload_n hx hb d_GM_isOperator_30 rfl (lv_at hl 0 rfl) ?_
            refine lv_bipush (v := 60) hx hb d_GM_isOperator_31 (by decide) ?_
            refine lv_icmp_eq (tgt := 42) hx hb d_GM_isOperator_33 (by decide) (fun c_33 => ?_) (fun c_33 => ?_)
            · refine lv_iconst (v := 1) hx hb d_GM_isOperator_42 (by decide) ?_
              refine lv_goto (tgt := 47) hx hb d_GM_isOperator_43 (by decide) ?_
              exact W.zret (v := 1) hx hb hr (bl_nar (Or.inr rfl)) (fun t ht hW => ⟨1, rfl, ⟨by simp only [f_GM_isOperator, if_neg c_3, if_neg c_9, if_neg c_15, if_neg c_21, if_neg c_27, if_pos c_33], (Or.inr rfl)⟩, ht⟩) (fun q h => absurd h List.not_mem_nil) d_GM_isOperator_47
            · refine lv_iload_n hx hb d_GM_isOperator_36 rfl (lv_at hl 0 rfl) ?_
              refine lv_bipush (v := 61) hx hb d_GM_isOperator_37 (by decide) ?_
              refine lv_icmp_ne (tgt := 46) hx hb d_GM_isOperator_39 (by decide) (fun c_39 => ?_) (fun c_39 => ?_)
              · refine lv_iconst (v := 0) hx hb d_GM_isOperator_46 (by decide) ?_
                exact W.zret (v := 0) hx hb hr (bl_nar (Or.inl rfl)) (fun t ht hW => ⟨0, rfl, ⟨by simp only [f_GM_isOperator, if_neg c_3, if_neg c_9, if_neg c_15, if_neg c_21, if_neg c_27, if_neg c_33, if_neg c_39], (Or.inl rfl)⟩, ht⟩) (fun q h => absurd h List.not_mem_nil) d_GM_isOperator_47
              · refine lv_iconst (v := 1) hx hb d_GM_isOperator_42 (by decide) ?_
                refine lv_goto (tgt := 47) hx hb d_GM_isOperator_43 (by decide) ?_
                exact W.zret (v := 1) hx hb hr (bl_nar (Or.inr rfl)) (fun t ht hW => ⟨1, rfl, ⟨by simp only [f_GM_isOperator, if_neg c_3, if_neg c_9, if_neg c_15, if_neg c_21, if_neg c_27, if_neg c_33, if_pos c_39], (Or.inr rfl)⟩, ht⟩) (fun q h => absurd h List.not_mem_nil) d_GM_isOperator_47
set_option maxHeartbeats 4000000 in
set_option maxRecDepth 100000 in
theorem c_GM_push (l : Launch) (D : va_G) (G : MP) (S : MS) (sz : Nat) (p1 : Int32) (p2 : Int32) (R : (Int32 × MS)) (hF : f_GM_push S p1 p2 = some R) : Met l y_GM_push ws_GM_push ({ frames := 0, cells := 0, slots := 0, locals := 0 }) (va_Pc [.ref (mA G 0), .int p1, .int p2] (mPre D G S sz)) (va_Qi (fun (r : Int32) (S' : MS) => (r, S') = R ∧ bl r) (wX D G (va_A (wM G S) sz)) (va_A (wM G S) sz)) 0 0 (va_A (wM G S) sz) := by
  refine Met.ofW (cc := b_GM_push) (maxL := 3) (ret := (some .boolean)) (by decide) rfl ?_
  intro p e s m args below meth c s₁ B hml hv
  obtain ⟨rfl, hsz, hP, hK, hD0⟩ := hv
  have hx := B.exec
  have hb := B.bytes
  have hr := B.returns
  have hts := atoms_spec (ws := ws_GM_push) B.pre
  have hown : s.vm.findClass R_GM = some m.cls := findClass_of_methodNamed B.named
  have hlocks := B.notSynchronized
  subst hsz
  have hD := hD0.self (sz := s.heap.size)
  generalize hAe : va_A (wM G S) s.heap.size = A at hD ⊢
  have hA : ∀ q : Nat, s.heap.size ≤ q → A q := fun q h => by rw [← hAe]; exact Or.inr h
  have hS : va_S A s.heap s.heap [] := va_S.rf
  have hl := lv_entry ([.ref (mA G 0), .int p1, .int p2]) (n := 3) (Nat.le_of_ble_eq_true rfl)
  rw [lg_entry_eq]
  generalize (lg_sl ([.ref (mA G 0), .int p1, .int p2]) ++ List.replicate (3 - (lg_sl ([.ref (mA G 0), .int p1, .int p2])).length) Slot.unset).toArray = ls at hl ⊢
  have hl : lv_has ls 3 [(0, .ref (mA G 0)), (1, .int p1), (2, .int p2)] := hl
  unfold f_GM_push at hF
  refine lv_aload_n hx hb d_GM_push_0 rfl (lv_at hl 0 rfl) ?_
  refine va_get (D := D) (ci := 6) (v := .int (S 0 5)) (C := R_GM) (T := T_GM) (N := 30) hx hb hts (fun w h => List.mem_cons_of_mem _ (in_GM w h)) hown hK hP 0 (m_0 G S) rfl 5 (by decide) (hts _ (List.mem_cons_of_mem _ kw449)) (fun _ h9 => h9) rfl d_GM_push_1 ?_
  refine lv_bipush (v := 6) hx hb d_GM_push_4 (by decide) ?_
  refine lv_icmp_ne (tgt := 11) hx hb d_GM_push_6 (by decide) (fun c_6 => ?_) (fun c_6 => ?_)
  · have hF := ng_of c_6 hF
    refine lv_aload_n hx hb d_GM_push_11 rfl (lv_at hl 0 rfl) ?_
    refine va_get (D := D) (ci := 6) (v := .ref (mA G 4)) (C := R_GM) (T := T_GM) (N := 30) hx hb hts (fun w h => List.mem_cons_of_mem _ (in_GM w h)) hown hK hP 0 (m_0 G S) rfl 4 (by decide) (hts _ (List.mem_cons_of_mem _ kw448)) (fun _ h9 => h9) rfl d_GM_push_12 ?_
    refine lv_aload_n hx hb d_GM_push_15 rfl (lv_at hl 0 rfl) ?_
    refine va_get (D := D) (ci := 6) (v := .int (S 0 5)) (C := R_GM) (T := T_GM) (N := 30) hx hb hts (fun w h => List.mem_cons_of_mem _ (in_GM w h)) hown hK hP 0 (m_0 G S) rfl 5 (by decide) (hts _ (List.mem_cons_of_mem _ kw449)) (fun _ h9 => h9) rfl d_GM_push_16 ?_
    refine lv_iload_n hx hb d_GM_push_19 rfl (lv_at hl 1 rfl) ?_
    obtain ⟨g20, hF⟩ := gd_of hF
    refine va_iastE (D := D) hx hb hK hP hD hS 4 0 (m_4 G S) rfl (ix_in g20) (msta_4 G S (S 0 5).toNatClampNeg p1) d_GM_push_20 (fun H locs hP hD hS => ?_)
    obtain ⟨S20, eS20⟩ : ∃ y : MS, y = stM S 4 (S 0 5).toNatClampNeg p1 := ⟨_, rfl⟩
    rw [← eS20] at hP hD
    have hF := lt_of hF eS20
    refine lv_aload_n hx hb d_GM_push_21 rfl (lv_at hl 0 rfl) ?_
    refine lv_dup hx hb d_GM_push_22 rfl ?_
    refine va_get (D := D) (ci := 6) (v := .int (S20 0 5)) (C := R_GM) (T := T_GM) (N := 30) hx hb hts (fun w h => List.mem_cons_of_mem _ (in_GM w h)) hown hK hP 0 (m_0 G S20) rfl 5 (by decide) (hts _ (List.mem_cons_of_mem _ kw449)) (fun _ h9 => h9) rfl d_GM_push_23 ?_
    refine lv_iconst (v := 1) hx hb d_GM_push_26 (by decide) ?_
    refine lv_iadd hx hb d_GM_push_27 ?_
    refine lv_topi (fun x27 ex27 => ?_)
    have hF := lt_of hF ex27
    refine va_putE (D := D) (ci := 6) (v := .int x27) (ty := .int) (C := R_GM) (T := T_GM) (N := 30) hx hb hts (fun w h => List.mem_cons_of_mem _ (in_GM w h)) t_GM t_GM_ok n_GM hown hK hP hD hS 0 (m_0 G S20) rfl 5 (by decide) (hts _ (List.mem_cons_of_mem _ kw449)) (fun _ h9 => h9) rfl (by decide +kernel) rfl rfl (Nat.le_of_ble_eq_true rfl) (mst_5 G S20 x27) d_GM_push_28 (fun H locs hP hD hS => ?_)
    obtain ⟨S28, eS28⟩ : ∃ y : MS, y = stM S20 0 5 x27 := ⟨_, rfl⟩
    rw [← eS28] at hP hD
    have hF := lt_of hF eS28
    refine lv_aload_n hx hb d_GM_push_31 rfl (lv_at hl 0 rfl) ?_
    refine lv_iload_n hx hb d_GM_push_32 rfl (lv_at hl 2 rfl) ?_
    refine va_putE (D := D) (ci := 6) (v := .int p2) (ty := .int) (C := R_GM) (T := T_GM) (N := 30) hx hb hts (fun w h => List.mem_cons_of_mem _ (in_GM w h)) t_GM t_GM_ok n_GM hown hK hP hD hS 0 (m_0 G S28) rfl 6 (by decide) (hts _ (List.mem_cons_of_mem _ kw450)) (fun _ h9 => h9) rfl (by decide +kernel) rfl rfl (Nat.le_of_ble_eq_true rfl) (mst_6 G S28 p2) d_GM_push_33 (fun H locs hP hD hS => ?_)
    obtain ⟨S33, eS33⟩ : ∃ y : MS, y = stM S28 0 6 p2 := ⟨_, rfl⟩
    rw [← eS33] at hP hD
    have hF := lt_of hF eS33
    refine lv_iconst (v := 1) hx hb d_GM_push_36 (by decide) ?_
    exact W.zret (v := 1) hx hb hr (bl_nar (Or.inr rfl)) (fun t ht hW => ⟨⟨1, S33, rfl, ⟨Option.some.inj hF, (Or.inr rfl)⟩, by rw [ht]; exact hP, hD⟩, hS.F ht⟩) hS.2.2 d_GM_push_37
  · have hF := ps_of c_6 hF
    refine lv_iconst (v := 0) hx hb d_GM_push_9 (by decide) ?_
    exact W.zret (v := 0) hx hb hr (bl_nar (Or.inl rfl)) (fun t ht hW => ⟨⟨0, S, rfl, ⟨Option.some.inj hF, (Or.inl rfl)⟩, by rw [ht]; exact hP, hD⟩, hS.F ht⟩) hS.2.2 d_GM_push_10
set_option maxHeartbeats 4000000 in
set_option maxRecDepth 100000 in
theorem c_GM_operandEnds (l : Launch) (D : va_G) (G : MP) (S : MS) (sz : Nat) (R : MS) (hF : f_GM_operandEnds S  = some R) : Met l y_GM_operandEnds ws_GM_operandEnds ({ frames := 0, cells := 0, slots := 0, locals := 0 }) (va_Pc [.ref (mA G 0)] (mPre D G S sz)) (va_Qv (fun S' : MS => S' = R) (wX D G (va_A (wM G S) sz)) (va_A (wM G S) sz)) 0 0 (va_A (wM G S) sz) := by
  refine Met.ofW (cc := b_GM_operandEnds) (maxL := 1) (ret := none) (by decide) rfl ?_
  intro p e s m args below meth c s₁ B hml hv
  obtain ⟨rfl, hsz, hP, hK, hD0⟩ := hv
  have hx := B.exec
  have hb := B.bytes
  have hr := B.returns
  have hts := atoms_spec (ws := ws_GM_operandEnds) B.pre
  have hown : s.vm.findClass R_GM = some m.cls := findClass_of_methodNamed B.named
  have hlocks := B.notSynchronized
  subst hsz
  have hD := hD0.self (sz := s.heap.size)
  generalize hAe : va_A (wM G S) s.heap.size = A at hD ⊢
  have hA : ∀ q : Nat, s.heap.size ≤ q → A q := fun q h => by rw [← hAe]; exact Or.inr h
  have hS : va_S A s.heap s.heap [] := va_S.rf
  have hl := lv_entry ([.ref (mA G 0)]) (n := 1) (Nat.le_of_ble_eq_true rfl)
  rw [lg_entry_eq]
  generalize (lg_sl ([.ref (mA G 0)]) ++ List.replicate (1 - (lg_sl ([.ref (mA G 0)])).length) Slot.unset).toArray = ls at hl ⊢
  have hl : lv_has ls 1 [(0, .ref (mA G 0))] := hl
  unfold f_GM_operandEnds at hF
  have loop0 : ∀ (K0 : MS → Option MS) (hexit : ∀ (S1 : MS) (H : Heap) (locs : List Loc) (ls : Array Slot), K0 S1 = some R → va_P D vwCl (wM G S1) H → va_D A (wM G S1) → va_S A s.heap H locs → lv_has ls 1 [(0, .ref (mA G 0))] → W p l e (headSpec ws_GM_operandEnds ({ frames := 0, cells := 0, slots := 0, locals := 0 })).room s m ([.ref (mA G 0)] : List Value).toArray below meth c H locs 0 0 (MQ below (va_Qv (fun S' : MS => S' = R) (wX D G A) A) ([.ref (mA G 0)] : List Value).toArray s 0 0 A) (F0 m 35 ls [])) (n : Nat) (S1 : MS) (H : Heap) (locs : List Loc) (ls : Array Slot), q_GM_operandEnds_0 n S1 K0 = some R → va_P D vwCl (wM G S1) H → va_D A (wM G S1) → va_S A s.heap H locs → lv_has ls 1 [(0, .ref (mA G 0))] → W p l e (headSpec ws_GM_operandEnds ({ frames := 0, cells := 0, slots := 0, locals := 0 })).room s m ([.ref (mA G 0)] : List Value).toArray below meth c H locs 0 0 (MQ below (va_Qv (fun S' : MS => S' = R) (wX D G A) A) ([.ref (mA G 0)] : List Value).toArray s 0 0 A) (F0 m 0 ls []) := by
    intro K0 hexit0 n
    induction n with
    | zero => intro S1 H locs ls hF; exact nomatch (show (none : Option MS) = some R from hF)
    | succ n ih0 =>
      intro S0 H locs ls hF hP hD hS hl
      rw [q_GM_operandEnds_0] at hF
      refine lv_aload_n hx hb d_GM_operandEnds_0 rfl (lv_at hl 0 rfl) ?_
      refine va_get (D := D) (ci := 6) (v := .int (S0 0 5)) (C := R_GM) (T := T_GM) (N := 30) hx hb hts (fun w h => List.mem_cons_of_mem _ (in_GM w h)) hown hK hP 0 (m_0 G S0) rfl 5 (by decide) (hts _ (List.mem_cons_of_mem _ kw449)) (fun _ h9 => h9) rfl d_GM_operandEnds_1 ?_
      refine lv_if_le (tgt := 35) hx hb d_GM_operandEnds_4 (by decide) (fun c_4 => ?_) (fun c_4 => ?_)
      · have hF := ps_of c_4 hF
        exact hexit0 S0 _ _ ls hF hP hD hS (lv_sub hl [0] rfl)
      · have hF := ng_of c_4 hF
        refine lv_aload_n hx hb d_GM_operandEnds_7 rfl (lv_at hl 0 rfl) ?_
        refine va_get (D := D) (ci := 6) (v := .ref (mA G 4)) (C := R_GM) (T := T_GM) (N := 30) hx hb hts (fun w h => List.mem_cons_of_mem _ (in_GM w h)) hown hK hP 0 (m_0 G S0) rfl 4 (by decide) (hts _ (List.mem_cons_of_mem _ kw448)) (fun _ h9 => h9) rfl d_GM_operandEnds_8 ?_
        refine lv_aload_n hx hb d_GM_operandEnds_11 rfl (lv_at hl 0 rfl) ?_
        refine va_get (D := D) (ci := 6) (v := .int (S0 0 5)) (C := R_GM) (T := T_GM) (N := 30) hx hb hts (fun w h => List.mem_cons_of_mem _ (in_GM w h)) hown hK hP 0 (m_0 G S0) rfl 5 (by decide) (hts _ (List.mem_cons_of_mem _ kw449)) (fun _ h9 => h9) rfl d_GM_operandEnds_12 ?_
        refine lv_iconst (v := 1) hx hb d_GM_operandEnds_15 (by decide) ?_
        refine lv_isub hx hb d_GM_operandEnds_16 ?_
        refine lv_topi (fun x16 ex16 => ?_)
        have hF := lt_of hF ex16
        obtain ⟨g17, hF⟩ := gd_of hF
        refine va_iald (D := D) hx hb hK hP 4 0 (m_4 G S0) rfl (ix_in g17) d_GM_operandEnds_17 ?_
        refine lv_topi (fun x17 ex17 => ?_)
        have hF := lt_of hF ex17
        refine lv_iconst (v := 2) hx hb d_GM_operandEnds_18 (by decide) ?_
        refine lv_icmp_ne (tgt := 35) hx hb d_GM_operandEnds_19 (by decide) (fun c_19 => ?_) (fun c_19 => ?_)
        · have hF := ng_of c_19 hF
          exact hexit0 S0 _ _ ls hF hP hD hS (lv_sub hl [0] rfl)
        · have hF := ps_of c_19 hF
          refine lv_aload_n hx hb d_GM_operandEnds_22 rfl (lv_at hl 0 rfl) ?_
          refine lv_dup hx hb d_GM_operandEnds_23 rfl ?_
          refine va_get (D := D) (ci := 6) (v := .int (S0 0 5)) (C := R_GM) (T := T_GM) (N := 30) hx hb hts (fun w h => List.mem_cons_of_mem _ (in_GM w h)) hown hK hP 0 (m_0 G S0) rfl 5 (by decide) (hts _ (List.mem_cons_of_mem _ kw449)) (fun _ h9 => h9) rfl d_GM_operandEnds_24 ?_
          refine lv_iconst (v := 1) hx hb d_GM_operandEnds_27 (by decide) ?_
          refine lv_isub hx hb d_GM_operandEnds_28 ?_
          refine lv_topi (fun x28 ex28 => ?_)
          have hF := lt_of hF ex28
          refine va_putE (D := D) (ci := 6) (v := .int x28) (ty := .int) (C := R_GM) (T := T_GM) (N := 30) hx hb hts (fun w h => List.mem_cons_of_mem _ (in_GM w h)) t_GM t_GM_ok n_GM hown hK hP hD hS 0 (m_0 G S0) rfl 5 (by decide) (hts _ (List.mem_cons_of_mem _ kw449)) (fun _ h9 => h9) rfl (by decide +kernel) rfl rfl (Nat.le_of_ble_eq_true rfl) (mst_5 G S0 x28) d_GM_operandEnds_29 (fun H locs hP hD hS => ?_)
          obtain ⟨S29, eS29⟩ : ∃ y : MS, y = stM S0 0 5 x28 := ⟨_, rfl⟩
          rw [← eS29] at hP hD
          have hF := lt_of hF eS29
          refine lv_goto (tgt := 0) hx hb d_GM_operandEnds_32 (by decide) ?_
          exact ih0 S29 _ _ ls hF hP hD hS (lv_sub hl [0] rfl)
  refine loop0 _ ?_ (fz 2000) S _ _ ls hF hP hD hS hl
  intro S35 H locs ls hF hP hD hS hl
  refine lv_aload_n hx hb d_GM_operandEnds_35 rfl (lv_at hl 0 rfl) ?_
  refine lv_iconst (v := 5) hx hb d_GM_operandEnds_36 (by decide) ?_
  refine va_putE (D := D) (ci := 6) (v := .int 5) (ty := .int) (C := R_GM) (T := T_GM) (N := 30) hx hb hts (fun w h => List.mem_cons_of_mem _ (in_GM w h)) t_GM t_GM_ok n_GM hown hK hP hD hS 0 (m_0 G S35) rfl 6 (by decide) (hts _ (List.mem_cons_of_mem _ kw450)) (fun _ h9 => h9) rfl (by decide +kernel) rfl rfl (Nat.le_of_ble_eq_true rfl) (mst_6 G S35 5) d_GM_operandEnds_37 (fun H locs hP hD hS => ?_)
  obtain ⟨S37, eS37⟩ : ∃ y : MS, y = stM S35 0 6 5 := ⟨_, rfl⟩
  rw [← eS37] at hP hD
  have hF := lt_of hF eS37
  exact W.vret hx hb hr (fun t ht hW => ⟨⟨S37, rfl, Option.some.inj hF, by rw [ht]; exact hP, hD⟩, hS.F ht⟩) hS.2.2 d_GM_operandEnds_40
set_option maxHeartbeats 4000000 in
set_option maxRecDepth 100000 in
theorem c_GM_atStatement (l : Launch) (D : va_G) (G : MP) (S : MS) (sz : Nat) (p1 : Int32) (R : (Int32 × MS)) (hF : f_GM_atStatement S p1 = some R) : Met l y_GM_atStatement ws_GM_atStatement ({ frames := 2, cells := 0, slots := 0, locals := 42 }) (va_Pc [.ref (mA G 0), .int p1] (mPre D G S sz)) (va_Qi (fun (r : Int32) (S' : MS) => (r, S') = R ∧ bl r) (wX D G (va_A (wM G S) sz)) (va_A (wM G S) sz)) 0 0 (va_A (wM G S) sz) := by
  refine Met.ofW (cc := b_GM_atStatement) (maxL := 3) (ret := (some .boolean)) (by decide) rfl ?_
  intro p e s m args below meth c s₁ B hml hv
  obtain ⟨rfl, hsz, hP, hK, hD0⟩ := hv
  have hx := B.exec
  have hb := B.bytes
  have hr := B.returns
  have hts := atoms_spec (ws := ws_GM_atStatement) B.pre
  have hown : s.vm.findClass R_GM = some m.cls := findClass_of_methodNamed B.named
  have hlocks := B.notSynchronized
  subst hsz
  have hD := hD0.self (sz := s.heap.size)
  generalize hAe : va_A (wM G S) s.heap.size = A at hD ⊢
  have hA : ∀ q : Nat, s.heap.size ≤ q → A q := fun q h => by rw [← hAe]; exact Or.inr h
  have hS : va_S A s.heap s.heap [] := va_S.rf
  have hl := lv_entry ([.ref (mA G 0), .int p1]) (n := 3) (Nat.le_of_ble_eq_true rfl)
  rw [lg_entry_eq]
  generalize (lg_sl ([.ref (mA G 0), .int p1]) ++ List.replicate (3 - (lg_sl ([.ref (mA G 0), .int p1])).length) Slot.unset).toArray = ls at hl ⊢
  have hl : lv_has ls 3 [(0, .ref (mA G 0)), (1, .int p1)] := hl
  unfold f_GM_atStatement at hF
  refine lv_aload_n hx hb d_GM_atStatement_0 rfl (lv_at hl 0 rfl) ?_
  refine va_get (D := D) (ci := 6) (v := .int (S 0 9)) (C := R_GM) (T := T_GM) (N := 30) hx hb hts (fun w h => List.mem_cons_of_mem _ (in_GM w h)) hown hK hP 0 (m_0 G S) rfl 9 (by decide) (hts _ (List.mem_cons_of_mem _ kw453)) (fun _ h9 => h9) rfl d_GM_atStatement_1 ?_
  refine lv_topi (fun x4 ex4 => ?_)
  have hF := lt_of hF ex4
  refine lv_istore_n (lv' := [(2, .int x4), (0, .ref (mA G 0)), (1, .int p1)]) hx hb d_GM_atStatement_4 rfl hl (by decide) rfl (fun ls hl => ?_)
  refine lv_aload_n hx hb d_GM_atStatement_5 rfl (lv_at hl 1 rfl) ?_
  refine lv_iconst (v := 0) hx hb d_GM_atStatement_6 (by decide) ?_
  refine va_putE (D := D) (ci := 6) (v := .int 0) (ty := .boolean) (C := R_GM) (T := T_GM) (N := 30) hx hb hts (fun w h => List.mem_cons_of_mem _ (in_GM w h)) t_GM t_GM_ok n_GM hown hK hP hD hS 0 (m_0 G S) rfl 9 (by decide) (hts _ (List.mem_cons_of_mem _ kw453)) (fun _ h9 => h9) rfl (by decide +kernel) (bl_nar (Or.inl rfl)) (bl_fit (Or.inl rfl)) (Nat.le_of_ble_eq_true rfl) (mst_9 G S 0) d_GM_atStatement_7 (fun H locs hP hD hS => ?_)
  obtain ⟨S7, eS7⟩ : ∃ y : MS, y = stM S 0 9 0 := ⟨_, rfl⟩
  rw [← eS7] at hP hD
  have hF := lt_of hF eS7
  refine lv_iload_n hx hb d_GM_atStatement_10 rfl (lv_at hl 2 rfl) ?_
  refine lv_bipush (v := 58) hx hb d_GM_atStatement_11 (by decide) ?_
  obtain ⟨k32, hk32, hF⟩ := jn_of hF
  have join32 : ∀ (T1 : MS) (H : Heap) (locs : List Loc) (ls : Array Slot), k32 T1 = some R → va_P D vwCl (wM G T1) H → va_D A (wM G T1) → va_S A s.heap H locs → lv_has ls 3 [(2, .int x4), (0, .ref (mA G 0)), (1, .int p1)] → W p l e (headSpec ws_GM_atStatement ({ frames := 2, cells := 0, slots := 0, locals := 42 })).room s m ([.ref (mA G 0), .int p1] : List Value).toArray below meth c H locs 0 0 (MQ below (va_Qi (fun (r : Int32) (S' : MS) => (r, S') = R ∧ bl r) (wX D G A) A) ([.ref (mA G 0), .int p1] : List Value).toArray s 0 0 A) (F0 m 32 ls []) := by
    intro T32 H locs ls hF hP hD hS hl
    rw [hk32] at hF
    refine lv_iload_n hx hb d_GM_atStatement_32 rfl (lv_at hl 2 rfl) ?_
    refine lv_bipush (v := 125) hx hb d_GM_atStatement_33 (by decide) ?_
    refine lv_icmp_ne (tgt := 88) hx hb d_GM_atStatement_35 (by decide) (fun c_35 => ?_) (fun c_35 => ?_)
    · have hF := ng_of c_35 hF
      refine lv_iload_n hx hb d_GM_atStatement_88 rfl (lv_at hl 2 rfl) ?_
      refine vp_callSi (W.runS (As := [.int p1]) (rest := []) ⟨hx, hb, hml, hown, hts⟩ (c_GM_isLetter l p1) (cwS 1 hts (gS kw527 kw528 kw7 kw529) rfl rfl rfl (by decide +kernel) ⟨by show (1 : Nat) + 1 ≤ 2; omega, by show 8 + (1 + 11) + 22 ≤ 42; omega⟩) ⟨blindNM, fun U hU hW => ⟨rfl, trivial⟩⟩ rfl rfl hl.1 rfl (lv_room (Nat.le_of_ble_eq_true rfl)) d_GM_atStatement_89 ⟨Nat.zero_le _, Nat.zero_le _⟩) (fun x89 ex89 => ?_)
      obtain ⟨ex89, bx89⟩ := ex89
      have hF := lt_of hF ex89
      obtain ⟨k178, hk178, hF⟩ := jn_of hF
      have join178 : ∀ (T1 : MS) (H : Heap) (locs : List Loc) (ls : Array Slot), k178 T1 = some R → va_P D vwCl (wM G T1) H → va_D A (wM G T1) → va_S A s.heap H locs → lv_has ls 3 [(2, .int x4), (0, .ref (mA G 0)), (1, .int p1)] → W p l e (headSpec ws_GM_atStatement ({ frames := 2, cells := 0, slots := 0, locals := 42 })).room s m ([.ref (mA G 0), .int p1] : List Value).toArray below meth c H locs 0 0 (MQ below (va_Qi (fun (r : Int32) (S' : MS) => (r, S') = R ∧ bl r) (wX D G A) A) ([.ref (mA G 0), .int p1] : List Value).toArray s 0 0 A) (F0 m 178 ls []) := by
        intro T178 H locs ls hF hP hD hS hl
        rw [hk178] at hF
        refine lv_iconst (v := 1) hx hb d_GM_atStatement_178 (by decide) ?_
        exact W.zret (v := 1) hx hb hr (bl_nar (Or.inr rfl)) (fun t ht hW => ⟨⟨1, T178, rfl, ⟨Option.some.inj hF, (Or.inr rfl)⟩, by rw [ht]; exact hP, hD⟩, hS.F ht⟩) hS.2.2 d_GM_atStatement_179
      refine lv_if_eq (tgt := 104) hx hb d_GM_atStatement_92 (by decide) (fun c_92 => ?_) (fun c_92 => ?_)
      · have hF := ps_of c_92 hF
        refine lv_iload_n hx hb d_GM_atStatement_104 rfl (lv_at hl 2 rfl) ?_
        refine vp_callSi (W.runS (As := [.int p1]) (rest := []) ⟨hx, hb, hml, hown, hts⟩ (c_GM_isVariable l p1) (cwS 1 hts (gS kw536 kw537 kw7 kw538) rfl rfl rfl (by decide +kernel) ⟨by show (1 : Nat) + 1 ≤ 2; omega, by show 8 + (1 + 11) + 22 ≤ 42; omega⟩) ⟨blindNM, fun U hU hW => ⟨rfl, trivial⟩⟩ rfl rfl hl.1 rfl (lv_room (Nat.le_of_ble_eq_true rfl)) d_GM_atStatement_105 ⟨Nat.zero_le _, Nat.zero_le _⟩) (fun x105 ex105 => ?_)
        obtain ⟨ex105, bx105⟩ := ex105
        have hF := lt_of hF ex105
        refine lv_if_eq (tgt := 124) hx hb d_GM_atStatement_108 (by decide) (fun c_108 => ?_) (fun c_108 => ?_)
        · have hF := ps_of c_108 hF
          refine lv_iload_n hx hb d_GM_atStatement_124 rfl (lv_at hl 2 rfl) ?_
          refine lv_bipush (v := 33) hx hb d_GM_atStatement_125 (by decide) ?_
          obtain ⟨k142, hk142, hF⟩ := jn_of hF
          have join142 : ∀ (T1 : MS) (H : Heap) (locs : List Loc) (ls : Array Slot), k142 T1 = some R → va_P D vwCl (wM G T1) H → va_D A (wM G T1) → va_S A s.heap H locs → lv_has ls 3 [(2, .int x4), (0, .ref (mA G 0)), (1, .int p1)] → W p l e (headSpec ws_GM_atStatement ({ frames := 2, cells := 0, slots := 0, locals := 42 })).room s m ([.ref (mA G 0), .int p1] : List Value).toArray below meth c H locs 0 0 (MQ below (va_Qi (fun (r : Int32) (S' : MS) => (r, S') = R ∧ bl r) (wX D G A) A) ([.ref (mA G 0), .int p1] : List Value).toArray s 0 0 A) (F0 m 142 ls []) := by
            intro T142 H locs ls hF hP hD hS hl
            rw [hk142] at hF
            refine lv_aload_n hx hb d_GM_atStatement_142 rfl (lv_at hl 1 rfl) ?_
            refine lv_iload_n hx hb d_GM_atStatement_143 rfl (lv_at hl 2 rfl) ?_
            refine lv_bipush (v := 33) hx hb d_GM_atStatement_144 (by decide) ?_
            obtain ⟨k165, hk165, hF⟩ := jn_of hF
            have join165 : ∀ (T1 : MS) (z165 : Int32) (H : Heap) (locs : List Loc) (ls : Array Slot), k165 T1 z165 = some R → va_P D vwCl (wM G T1) H → va_D A (wM G T1) → va_S A s.heap H locs → lv_has ls 3 [(2, .int x4), (0, .ref (mA G 0)), (1, .int p1)] → W p l e (headSpec ws_GM_atStatement ({ frames := 2, cells := 0, slots := 0, locals := 42 })).room s m ([.ref (mA G 0), .int p1] : List Value).toArray below meth c H locs 0 0 (MQ below (va_Qi (fun (r : Int32) (S' : MS) => (r, S') = R ∧ bl r) (wX D G A) A) ([.ref (mA G 0), .int p1] : List Value).toArray s 0 0 A) (F0 m 165 ls [.int z165, .ref (mA G 0)]) := by
              intro T165 z165 H locs ls hF hP hD hS hl
              rw [hk165] at hF
              refine va_putE (D := D) (ci := 6) (v := .int z165) (ty := .int) (C := R_GM) (T := T_GM) (N := 30) hx hb hts (fun w h => List.mem_cons_of_mem _ (in_GM w h)) t_GM t_GM_ok n_GM hown hK hP hD hS 0 (m_0 G T165) rfl 7 (by decide) (hts _ (List.mem_cons_of_mem _ kw451)) (fun _ h9 => h9) rfl (by decide +kernel) rfl rfl (Nat.le_of_ble_eq_true rfl) (mst_7 G T165 z165) d_GM_atStatement_165 (fun H locs hP hD hS => ?_)
              obtain ⟨S165, eS165⟩ : ∃ y : MS, y = stM T165 0 7 z165 := ⟨_, rfl⟩
              rw [← eS165] at hP hD
              have hF := lt_of hF eS165
              refine lv_aload_n hx hb d_GM_atStatement_168 rfl (lv_at hl 1 rfl) ?_
              refine lv_iconst (v := 4) hx hb d_GM_atStatement_169 (by decide) ?_
              refine va_putE (D := D) (ci := 6) (v := .int 4) (ty := .int) (C := R_GM) (T := T_GM) (N := 30) hx hb hts (fun w h => List.mem_cons_of_mem _ (in_GM w h)) t_GM t_GM_ok n_GM hown hK hP hD hS 0 (m_0 G S165) rfl 6 (by decide) (hts _ (List.mem_cons_of_mem _ kw450)) (fun _ h9 => h9) rfl (by decide +kernel) rfl rfl (Nat.le_of_ble_eq_true rfl) (mst_6 G S165 4) d_GM_atStatement_170 (fun H locs hP hD hS => ?_)
              obtain ⟨S170, eS170⟩ : ∃ y : MS, y = stM S165 0 6 4 := ⟨_, rfl⟩
              rw [← eS170] at hP hD
              have hF := lt_of hF eS170
              refine lv_goto (tgt := 178) hx hb d_GM_atStatement_173 (by decide) ?_
              exact join178 S170 _ _ ls hF hP hD hS (lv_sub hl [0, 1, 2] rfl)
            refine lv_icmp_ne (tgt := 153) hx hb d_GM_atStatement_146 (by decide) (fun c_146 => ?_) (fun c_146 => ?_)
            · have hF := ng_of c_146 hF
              refine lv_iload_n hx hb d_GM_atStatement_153 rfl (lv_at hl 2 rfl) ?_
              refine lv_bipush (v := 63) hx hb d_GM_atStatement_154 (by decide) ?_
              refine lv_icmp_ne (tgt := 163) hx hb d_GM_atStatement_156 (by decide) (fun c_156 => ?_) (fun c_156 => ?_)
              · have hF := ng_of c_156 hF
                refine lv_bipush (v := 6) hx hb d_GM_atStatement_163 (by decide) ?_
                exact join165 T142 6 _ _ ls hF hP hD hS (lv_sub hl [0, 1, 2] rfl)
              · have hF := ps_of c_156 hF
                refine lv_iconst (v := 4) hx hb d_GM_atStatement_159 (by decide) ?_
                refine lv_goto (tgt := 165) hx hb d_GM_atStatement_160 (by decide) ?_
                exact join165 T142 4 _ _ ls hF hP hD hS (lv_sub hl [0, 1, 2] rfl)
            · have hF := ps_of c_146 hF
              refine lv_iconst (v := 0) hx hb d_GM_atStatement_149 (by decide) ?_
              refine lv_goto (tgt := 165) hx hb d_GM_atStatement_150 (by decide) ?_
              exact join165 T142 0 _ _ ls hF hP hD hS (lv_sub hl [0, 1, 2] rfl)
          refine lv_icmp_eq (tgt := 142) hx hb d_GM_atStatement_127 (by decide) (fun c_127 => ?_) (fun c_127 => ?_)
          · have hF := ps_of c_127 hF
            exact join142 T32 _ _ ls hF hP hD hS (lv_sub hl [0, 1, 2] rfl)
          · have hF := ng_of c_127 hF
            refine lv_iload_n hx hb d_GM_atStatement_130 rfl (lv_at hl 2 rfl) ?_
            refine lv_bipush (v := 63) hx hb d_GM_atStatement_131 (by decide) ?_
            refine lv_icmp_eq (tgt := 142) hx hb d_GM_atStatement_133 (by decide) (fun c_133 => ?_) (fun c_133 => ?_)
            · have hF := ps_of c_133 hF
              exact join142 T32 _ _ ls hF hP hD hS (lv_sub hl [0, 1, 2] rfl)
            · have hF := ng_of c_133 hF
              refine lv_iload_n hx hb d_GM_atStatement_136 rfl (lv_at hl 2 rfl) ?_
              refine lv_bipush (v := 64) hx hb d_GM_atStatement_137 (by decide) ?_
              refine lv_icmp_ne (tgt := 176) hx hb d_GM_atStatement_139 (by decide) (fun c_139 => ?_) (fun c_139 => ?_)
              · have hF := ng_of c_139 hF
                refine lv_iconst (v := 0) hx hb d_GM_atStatement_176 (by decide) ?_
                exact W.zret (v := 0) hx hb hr (bl_nar (Or.inl rfl)) (fun t ht hW => ⟨⟨0, T32, rfl, ⟨Option.some.inj hF, (Or.inl rfl)⟩, by rw [ht]; exact hP, hD⟩, hS.F ht⟩) hS.2.2 d_GM_atStatement_177
              · have hF := ps_of c_139 hF
                exact join142 T32 _ _ ls hF hP hD hS (lv_sub hl [0, 1, 2] rfl)
        · have hF := ng_of c_108 hF
          refine lv_aload_n hx hb d_GM_atStatement_111 rfl (lv_at hl 1 rfl) ?_
          refine lv_iconst (v := 0) hx hb d_GM_atStatement_112 (by decide) ?_
          refine va_putE (D := D) (ci := 6) (v := .int 0) (ty := .int) (C := R_GM) (T := T_GM) (N := 30) hx hb hts (fun w h => List.mem_cons_of_mem _ (in_GM w h)) t_GM t_GM_ok n_GM hown hK hP hD hS 0 (m_0 G T32) rfl 7 (by decide) (hts _ (List.mem_cons_of_mem _ kw451)) (fun _ h9 => h9) rfl (by decide +kernel) rfl rfl (Nat.le_of_ble_eq_true rfl) (mst_7 G T32 0) d_GM_atStatement_113 (fun H locs hP hD hS => ?_)
          obtain ⟨S113, eS113⟩ : ∃ y : MS, y = stM T32 0 7 0 := ⟨_, rfl⟩
          rw [← eS113] at hP hD
          have hF := lt_of hF eS113
          refine lv_aload_n hx hb d_GM_atStatement_116 rfl (lv_at hl 1 rfl) ?_
          refine lv_iconst (v := 3) hx hb d_GM_atStatement_117 (by decide) ?_
          refine va_putE (D := D) (ci := 6) (v := .int 3) (ty := .int) (C := R_GM) (T := T_GM) (N := 30) hx hb hts (fun w h => List.mem_cons_of_mem _ (in_GM w h)) t_GM t_GM_ok n_GM hown hK hP hD hS 0 (m_0 G S113) rfl 6 (by decide) (hts _ (List.mem_cons_of_mem _ kw450)) (fun _ h9 => h9) rfl (by decide +kernel) rfl rfl (Nat.le_of_ble_eq_true rfl) (mst_6 G S113 3) d_GM_atStatement_118 (fun H locs hP hD hS => ?_)
          obtain ⟨S118, eS118⟩ : ∃ y : MS, y = stM S113 0 6 3 := ⟨_, rfl⟩
          rw [← eS118] at hP hD
          have hF := lt_of hF eS118
          refine lv_goto (tgt := 178) hx hb d_GM_atStatement_121 (by decide) ?_
          exact join178 S118 _ _ ls hF hP hD hS (lv_sub hl [0, 1, 2] rfl)
      · have hF := ng_of c_92 hF
        refine lv_aload_n hx hb d_GM_atStatement_95 rfl (lv_at hl 1 rfl) ?_
        refine lv_bipush (v := 6) hx hb d_GM_atStatement_96 (by decide) ?_
        refine va_putE (D := D) (ci := 6) (v := .int 6) (ty := .int) (C := R_GM) (T := T_GM) (N := 30) hx hb hts (fun w h => List.mem_cons_of_mem _ (in_GM w h)) t_GM t_GM_ok n_GM hown hK hP hD hS 0 (m_0 G T32) rfl 6 (by decide) (hts _ (List.mem_cons_of_mem _ kw450)) (fun _ h9 => h9) rfl (by decide +kernel) rfl rfl (Nat.le_of_ble_eq_true rfl) (mst_6 G T32 6) d_GM_atStatement_98 (fun H locs hP hD hS => ?_)
        obtain ⟨S98, eS98⟩ : ∃ y : MS, y = stM T32 0 6 6 := ⟨_, rfl⟩
        rw [← eS98] at hP hD
        have hF := lt_of hF eS98
        refine lv_goto (tgt := 178) hx hb d_GM_atStatement_101 (by decide) ?_
        exact join178 S98 _ _ ls hF hP hD hS (lv_sub hl [0, 1, 2] rfl)
    · have hF := ps_of c_35 hF
      refine lv_aload_n hx hb d_GM_atStatement_38 rfl (lv_at hl 1 rfl) ?_
      refine lv_dup hx hb d_GM_atStatement_39 rfl ?_
      refine va_get (D := D) (ci := 6) (v := .int (T32 0 5)) (C := R_GM) (T := T_GM) (N := 30) hx hb hts (fun w h => List.mem_cons_of_mem _ (in_GM w h)) hown hK hP 0 (m_0 G T32) rfl 5 (by decide) (hts _ (List.mem_cons_of_mem _ kw449)) (fun _ h9 => h9) rfl d_GM_atStatement_40 ?_
      refine lv_iconst (v := 1) hx hb d_GM_atStatement_43 (by decide) ?_
      refine lv_isub hx hb d_GM_atStatement_44 ?_
      refine lv_topi (fun x44 ex44 => ?_)
      have hF := lt_of hF ex44
      refine va_putE (D := D) (ci := 6) (v := .int x44) (ty := .int) (C := R_GM) (T := T_GM) (N := 30) hx hb hts (fun w h => List.mem_cons_of_mem _ (in_GM w h)) t_GM t_GM_ok n_GM hown hK hP hD hS 0 (m_0 G T32) rfl 5 (by decide) (hts _ (List.mem_cons_of_mem _ kw449)) (fun _ h9 => h9) rfl (by decide +kernel) rfl rfl (Nat.le_of_ble_eq_true rfl) (mst_5 G T32 x44) d_GM_atStatement_45 (fun H locs hP hD hS => ?_)
      obtain ⟨S45, eS45⟩ : ∃ y : MS, y = stM T32 0 5 x44 := ⟨_, rfl⟩
      rw [← eS45] at hP hD
      have hF := lt_of hF eS45
      refine lv_aload_n hx hb d_GM_atStatement_48 rfl (lv_at hl 1 rfl) ?_
      refine lv_aload_n hx hb d_GM_atStatement_49 rfl (lv_at hl 1 rfl) ?_
      refine va_get (D := D) (ci := 6) (v := .ref (mA G 4)) (C := R_GM) (T := T_GM) (N := 30) hx hb hts (fun w h => List.mem_cons_of_mem _ (in_GM w h)) hown hK hP 0 (m_0 G S45) rfl 4 (by decide) (hts _ (List.mem_cons_of_mem _ kw448)) (fun _ h9 => h9) rfl d_GM_atStatement_50 ?_
      refine lv_aload_n hx hb d_GM_atStatement_53 rfl (lv_at hl 1 rfl) ?_
      refine va_get (D := D) (ci := 6) (v := .int (S45 0 5)) (C := R_GM) (T := T_GM) (N := 30) hx hb hts (fun w h => List.mem_cons_of_mem _ (in_GM w h)) hown hK hP 0 (m_0 G S45) rfl 5 (by decide) (hts _ (List.mem_cons_of_mem _ kw449)) (fun _ h9 => h9) rfl d_GM_atStatement_54 ?_
      obtain ⟨g57, hF⟩ := gd_of hF
      refine va_iald (D := D) hx hb hK hP 4 0 (m_4 G S45) rfl (ix_in g57) d_GM_atStatement_57 ?_
      refine lv_topi (fun x57 ex57 => ?_)
      have hF := lt_of hF ex57
      refine lv_iconst (v := 4) hx hb d_GM_atStatement_58 (by decide) ?_
      obtain ⟨k67, hk67, hF⟩ := jn_of hF
      have join67 : ∀ (T1 : MS) (z67 : Int32) (H : Heap) (locs : List Loc) (ls : Array Slot), k67 T1 z67 = some R → va_P D vwCl (wM G T1) H → va_D A (wM G T1) → va_S A s.heap H locs → lv_has ls 3 [(2, .int x4), (0, .ref (mA G 0)), (1, .int p1)] → W p l e (headSpec ws_GM_atStatement ({ frames := 2, cells := 0, slots := 0, locals := 42 })).room s m ([.ref (mA G 0), .int p1] : List Value).toArray below meth c H locs 0 0 (MQ below (va_Qi (fun (r : Int32) (S' : MS) => (r, S') = R ∧ bl r) (wX D G A) A) ([.ref (mA G 0), .int p1] : List Value).toArray s 0 0 A) (F0 m 67 ls [.int z67, .ref (mA G 0)]) := by
        intro T67 z67 H locs ls hF hP hD hS hl
        rw [hk67] at hF
        obtain ⟨g67, hF⟩ := gd_of hF
        refine va_putE (D := D) (ci := 6) (v := .int z67) (ty := .boolean) (C := R_GM) (T := T_GM) (N := 30) hx hb hts (fun w h => List.mem_cons_of_mem _ (in_GM w h)) t_GM t_GM_ok n_GM hown hK hP hD hS 0 (m_0 G T67) rfl 9 (by decide) (hts _ (List.mem_cons_of_mem _ kw453)) (fun _ h9 => h9) rfl (by decide +kernel) (bl_nar (isB_bl g67)) (bl_fit (isB_bl g67)) (Nat.le_of_ble_eq_true rfl) (mst_9 G T67 z67) d_GM_atStatement_67 (fun H locs hP hD hS => ?_)
        obtain ⟨S67, eS67⟩ : ∃ y : MS, y = stM T67 0 9 z67 := ⟨_, rfl⟩
        rw [← eS67] at hP hD
        have hF := lt_of hF eS67
        refine lv_aload_n hx hb d_GM_atStatement_70 rfl (lv_at hl 1 rfl) ?_
        refine lv_aload_n hx hb d_GM_atStatement_71 rfl (lv_at hl 1 rfl) ?_
        refine va_get (D := D) (ci := 6) (v := .int (S67 0 5)) (C := R_GM) (T := T_GM) (N := 30) hx hb hts (fun w h => List.mem_cons_of_mem _ (in_GM w h)) hown hK hP 0 (m_0 G S67) rfl 5 (by decide) (hts _ (List.mem_cons_of_mem _ kw449)) (fun _ h9 => h9) rfl d_GM_atStatement_72 ?_
        obtain ⟨k83, hk83, hF⟩ := jn_of hF
        have join83 : ∀ (T1 : MS) (z83 : Int32) (H : Heap) (locs : List Loc) (ls : Array Slot), k83 T1 z83 = some R → va_P D vwCl (wM G T1) H → va_D A (wM G T1) → va_S A s.heap H locs → lv_has ls 3 [(2, .int x4), (0, .ref (mA G 0)), (1, .int p1)] → W p l e (headSpec ws_GM_atStatement ({ frames := 2, cells := 0, slots := 0, locals := 42 })).room s m ([.ref (mA G 0), .int p1] : List Value).toArray below meth c H locs 0 0 (MQ below (va_Qi (fun (r : Int32) (S' : MS) => (r, S') = R ∧ bl r) (wX D G A) A) ([.ref (mA G 0), .int p1] : List Value).toArray s 0 0 A) (F0 m 83 ls [.int z83, .ref (mA G 0)]) := by
          intro T83 z83 H locs ls hF hP hD hS hl
          rw [hk83] at hF
          refine va_putE (D := D) (ci := 6) (v := .int z83) (ty := .int) (C := R_GM) (T := T_GM) (N := 30) hx hb hts (fun w h => List.mem_cons_of_mem _ (in_GM w h)) t_GM t_GM_ok n_GM hown hK hP hD hS 0 (m_0 G T83) rfl 6 (by decide) (hts _ (List.mem_cons_of_mem _ kw450)) (fun _ h9 => h9) rfl (by decide +kernel) rfl rfl (Nat.le_of_ble_eq_true rfl) (mst_6 G T83 z83) d_GM_atStatement_83 (fun H locs hP hD hS => ?_)
          obtain ⟨S83, eS83⟩ : ∃ y : MS, y = stM T83 0 6 z83 := ⟨_, rfl⟩
          rw [← eS83] at hP hD
          have hF := lt_of hF eS83
          refine lv_iconst (v := 1) hx hb d_GM_atStatement_86 (by decide) ?_
          exact W.zret (v := 1) hx hb hr (bl_nar (Or.inr rfl)) (fun t ht hW => ⟨⟨1, S83, rfl, ⟨Option.some.inj hF, (Or.inr rfl)⟩, by rw [ht]; exact hP, hD⟩, hS.F ht⟩) hS.2.2 d_GM_atStatement_87
        refine lv_if_ne (tgt := 82) hx hb d_GM_atStatement_75 (by decide) (fun c_75 => ?_) (fun c_75 => ?_)
        · have hF := ng_of c_75 hF
          refine lv_iconst (v := 2) hx hb d_GM_atStatement_82 (by decide) ?_
          exact join83 S67 2 _ _ ls hF hP hD hS (lv_sub hl [0, 1, 2] rfl)
        · have hF := ps_of c_75 hF
          refine lv_iconst (v := 0) hx hb d_GM_atStatement_78 (by decide) ?_
          refine lv_goto (tgt := 83) hx hb d_GM_atStatement_79 (by decide) ?_
          exact join83 S67 0 _ _ ls hF hP hD hS (lv_sub hl [0, 1, 2] rfl)
      refine lv_icmp_ne (tgt := 66) hx hb d_GM_atStatement_59 (by decide) (fun c_59 => ?_) (fun c_59 => ?_)
      · have hF := ng_of c_59 hF
        refine lv_iconst (v := 0) hx hb d_GM_atStatement_66 (by decide) ?_
        exact join67 S45 0 _ _ ls hF hP hD hS (lv_sub hl [0, 1, 2] rfl)
      · have hF := ps_of c_59 hF
        refine lv_iconst (v := 1) hx hb d_GM_atStatement_62 (by decide) ?_
        refine lv_goto (tgt := 67) hx hb d_GM_atStatement_63 (by decide) ?_
        exact join67 S45 1 _ _ ls hF hP hD hS (lv_sub hl [0, 1, 2] rfl)
  refine lv_icmp_ne (tgt := 32) hx hb d_GM_atStatement_13 (by decide) (fun c_13 => ?_) (fun c_13 => ?_)
  · have hF := ng_of c_13 hF
    exact join32 S7 _ _ ls hF hP hD hS (lv_sub hl [0, 1, 2] rfl)
  · have hF := ps_of c_13 hF
    refine lv_iload_n hx hb d_GM_atStatement_16 rfl (lv_at hl 0 rfl) ?_
    refine lv_if_eq (tgt := 32) hx hb d_GM_atStatement_17 (by decide) (fun c_17 => ?_) (fun c_17 => ?_)
    · have hF := ps_of c_17 hF
      exact join32 S7 _ _ ls hF hP hD hS (lv_sub hl [0, 1, 2] rfl)
    · have hF := ng_of c_17 hF
      refine lv_aload_n hx hb d_GM_atStatement_20 rfl (lv_at hl 1 rfl) ?_
      refine lv_iconst (v := 5) hx hb d_GM_atStatement_21 (by decide) ?_
      refine va_putE (D := D) (ci := 6) (v := .int 5) (ty := .int) (C := R_GM) (T := T_GM) (N := 30) hx hb hts (fun w h => List.mem_cons_of_mem _ (in_GM w h)) t_GM t_GM_ok n_GM hown hK hP hD hS 0 (m_0 G S7) rfl 7 (by decide) (hts _ (List.mem_cons_of_mem _ kw451)) (fun _ h9 => h9) rfl (by decide +kernel) rfl rfl (Nat.le_of_ble_eq_true rfl) (mst_7 G S7 5) d_GM_atStatement_22 (fun H locs hP hD hS => ?_)
      obtain ⟨S22, eS22⟩ : ∃ y : MS, y = stM S7 0 7 5 := ⟨_, rfl⟩
      rw [← eS22] at hP hD
      have hF := lt_of hF eS22
      refine lv_aload_n hx hb d_GM_atStatement_25 rfl (lv_at hl 1 rfl) ?_
      refine lv_iconst (v := 1) hx hb d_GM_atStatement_26 (by decide) ?_
      refine va_putE (D := D) (ci := 6) (v := .int 1) (ty := .int) (C := R_GM) (T := T_GM) (N := 30) hx hb hts (fun w h => List.mem_cons_of_mem _ (in_GM w h)) t_GM t_GM_ok n_GM hown hK hP hD hS 0 (m_0 G S22) rfl 6 (by decide) (hts _ (List.mem_cons_of_mem _ kw450)) (fun _ h9 => h9) rfl (by decide +kernel) rfl rfl (Nat.le_of_ble_eq_true rfl) (mst_6 G S22 1) d_GM_atStatement_27 (fun H locs hP hD hS => ?_)
      obtain ⟨S27, eS27⟩ : ∃ y : MS, y = stM S22 0 6 1 := ⟨_, rfl⟩
      rw [← eS27] at hP hD
      have hF := lt_of hF eS27
      refine lv_iconst (v := 1) hx hb d_GM_atStatement_30 (by decide) ?_
      exact W.zret (v := 1) hx hb hr (bl_nar (Or.inr rfl)) (fun t ht hW => ⟨⟨1, S27, rfl, ⟨Option.some.inj hF, (Or.inr rfl)⟩, by rw [ht]; exact hP, hD⟩, hS.F ht⟩) hS.2.2 d_GM_atStatement_31
set_option maxHeartbeats 4000000 in
set_option maxRecDepth 100000 in
theorem c_GM_atOperand (l : Launch) (D : va_G) (G : MP) (S : MS) (sz : Nat) (p1 : Int32) (R : (Int32 × MS)) (hF : f_GM_atOperand S p1 = some R) : Met l y_GM_atOperand ws_GM_atOperand ({ frames := 2, cells := 0, slots := 0, locals := 42 }) (va_Pc [.ref (mA G 0), .int p1] (mPre D G S sz)) (va_Qi (fun (r : Int32) (S' : MS) => (r, S') = R ∧ bl r) (wX D G (va_A (wM G S) sz)) (va_A (wM G S) sz)) 0 0 (va_A (wM G S) sz) := by
  refine Met.ofW (cc := b_GM_atOperand) (maxL := 3) (ret := (some .boolean)) (by decide) rfl ?_
  intro p e s m args below meth c s₁ B hml hv
  obtain ⟨rfl, hsz, hP, hK, hD0⟩ := hv
  have hx := B.exec
  have hb := B.bytes
  have hr := B.returns
  have hts := atoms_spec (ws := ws_GM_atOperand) B.pre
  have hown : s.vm.findClass R_GM = some m.cls := findClass_of_methodNamed B.named
  have hlocks := B.notSynchronized
  subst hsz
  have hD := hD0.self (sz := s.heap.size)
  generalize hAe : va_A (wM G S) s.heap.size = A at hD ⊢
  have hA : ∀ q : Nat, s.heap.size ≤ q → A q := fun q h => by rw [← hAe]; exact Or.inr h
  have hS : va_S A s.heap s.heap [] := va_S.rf
  have hl := lv_entry ([.ref (mA G 0), .int p1]) (n := 3) (Nat.le_of_ble_eq_true rfl)
  rw [lg_entry_eq]
  generalize (lg_sl ([.ref (mA G 0), .int p1]) ++ List.replicate (3 - (lg_sl ([.ref (mA G 0), .int p1])).length) Slot.unset).toArray = ls at hl ⊢
  have hl : lv_has ls 3 [(0, .ref (mA G 0)), (1, .int p1)] := hl
  unfold f_GM_atOperand at hF
  refine lv_iload_n hx hb d_GM_atOperand_0 rfl (lv_at hl 1 rfl) ?_
  refine lv_bipush (v := 40) hx hb d_GM_atOperand_1 (by decide) ?_
  refine lv_icmp_ne (tgt := 13) hx hb d_GM_atOperand_3 (by decide) (fun c_3 => ?_) (fun c_3 => ?_)
  · have hF := ng_of c_3 hF
    refine lv_iload_n hx hb d_GM_atOperand_13 rfl (lv_at hl 1 rfl) ?_
    refine lv_bipush (v := 126) hx hb d_GM_atOperand_14 (by decide) ?_
    obtain ⟨k25, hk25, hF⟩ := jn_of hF
    have join25 : ∀ (T1 : MS) (H : Heap) (locs : List Loc) (ls : Array Slot), k25 T1 = some R → va_P D vwCl (wM G T1) H → va_D A (wM G T1) → va_S A s.heap H locs → lv_has ls 3 [(0, .ref (mA G 0)), (1, .int p1)] → W p l e (headSpec ws_GM_atOperand ({ frames := 2, cells := 0, slots := 0, locals := 42 })).room s m ([.ref (mA G 0), .int p1] : List Value).toArray below meth c H locs 0 0 (MQ below (va_Qi (fun (r : Int32) (S' : MS) => (r, S') = R ∧ bl r) (wX D G A) A) ([.ref (mA G 0), .int p1] : List Value).toArray s 0 0 A) (F0 m 25 ls []) := by
      intro T25 H locs ls hF hP hD hS hl
      rw [hk25] at hF
      refine lv_aload_n hx hb d_GM_atOperand_25 rfl (lv_at hl 0 rfl) ?_
      refine lv_iconst (v := 2) hx hb d_GM_atOperand_26 (by decide) ?_
      refine lv_iconst (v := 4) hx hb d_GM_atOperand_27 (by decide) ?_
      obtain ⟨x28, S28, hq28, hF⟩ := bd2_of hF
      refine dq_i (va_runV (As := [.int 2, .int 4]) (rest := []) ⟨hx, hb, hml, hown, hts⟩ (c_GM_push l D G T25 _ 2 4 (x28, S28) hq28) (cwV 2 hts (gV kw530 kw531 kw654 kw7 kw532) rfl rfl rfl (by decide +kernel) ⟨by show (0 : Nat) + 1 ≤ 2; omega, by show 8 + (3 + 11) + 0 ≤ 42; omega⟩) ⟨blindM, va_recv (ci := 6) (q0 := 0) hK hP rfl (m_0 G T25), fun U hU hW => ⟨rfl, mPre_of hP hK hD hU hW⟩⟩ rfl rfl hl.1 rfl (lv_room (Nat.le_of_ble_eq_true rfl)) d_GM_atOperand_28 ⟨Nat.zero_le _, Nat.zero_le _⟩) hD hS hA (fun rx28 rS28 H locs hw hP hD hS => ?_)
      obtain ⟨hw, bx28⟩ := hw
      obtain ⟨h1, h2⟩ := Prod.mk.inj hw
      have h1 := h1.symm
      have h2 := h2.symm
      subst h1
      subst h2
      exact W.zret (v := x28) hx hb hr (bl_nar bx28) (fun t ht hW => ⟨⟨x28, S28, rfl, ⟨Option.some.inj hF, bx28⟩, by rw [ht]; exact hP, hD⟩, hS.F ht⟩) hS.2.2 d_GM_atOperand_31
    refine lv_icmp_eq (tgt := 25) hx hb d_GM_atOperand_16 (by decide) (fun c_16 => ?_) (fun c_16 => ?_)
    · have hF := ps_of c_16 hF
      exact join25 S _ _ ls hF hP hD hS (lv_sub hl [0, 1] rfl)
    · have hF := ng_of c_16 hF
      refine lv_iload_n hx hb d_GM_atOperand_19 rfl (lv_at hl 1 rfl) ?_
      refine lv_bipush (v := 45) hx hb d_GM_atOperand_20 (by decide) ?_
      refine lv_icmp_ne (tgt := 32) hx hb d_GM_atOperand_22 (by decide) (fun c_22 => ?_) (fun c_22 => ?_)
      · have hF := ng_of c_22 hF
        refine lv_iload_n hx hb d_GM_atOperand_32 rfl (lv_at hl 1 rfl) ?_
        refine lv_bipush (v := 48) hx hb d_GM_atOperand_33 (by decide) ?_
        refine lv_bipush (v := 57) hx hb d_GM_atOperand_35 (by decide) ?_
        refine vp_callSi (W.runS (As := [.int p1, .int 48, .int 57]) (rest := []) ⟨hx, hb, hml, hown, hts⟩ (c_GM_in l p1 48 57) (cwS 3 hts (gS kw510 kw511 kw7 kw512) rfl rfl rfl (by decide +kernel) ⟨by show (0 : Nat) + 1 ≤ 2; omega, by show 8 + (3 + 11) + 0 ≤ 42; omega⟩) ⟨blindNM, fun U hU hW => ⟨rfl, trivial⟩⟩ rfl rfl hl.1 rfl (lv_room (Nat.le_of_ble_eq_true rfl)) d_GM_atOperand_37 ⟨Nat.zero_le _, Nat.zero_le _⟩) (fun x37 ex37 => ?_)
        obtain ⟨ex37, bx37⟩ := ex37
        have hF := lt_of hF ex37
        refine lv_istore_n (lv' := [(2, .int x37), (0, .ref (mA G 0)), (1, .int p1)]) hx hb d_GM_atOperand_40 rfl hl (by decide) rfl (fun ls hl => ?_)
        refine lv_iload_n hx hb d_GM_atOperand_41 rfl (lv_at hl 0 rfl) ?_
        obtain ⟨k54, hk54, hF⟩ := jn_of hF
        have join54 : ∀ (T1 : MS) (H : Heap) (locs : List Loc) (ls : Array Slot), k54 T1 = some R → va_P D vwCl (wM G T1) H → va_D A (wM G T1) → va_S A s.heap H locs → lv_has ls 3 [(2, .int x37), (0, .ref (mA G 0)), (1, .int p1)] → W p l e (headSpec ws_GM_atOperand ({ frames := 2, cells := 0, slots := 0, locals := 42 })).room s m ([.ref (mA G 0), .int p1] : List Value).toArray below meth c H locs 0 0 (MQ below (va_Qi (fun (r : Int32) (S' : MS) => (r, S') = R ∧ bl r) (wX D G A) A) ([.ref (mA G 0), .int p1] : List Value).toArray s 0 0 A) (F0 m 54 ls []) := by
          intro T54 H locs ls hF hP hD hS hl
          rw [hk54] at hF
          refine lv_aload_n hx hb d_GM_atOperand_54 rfl (lv_at hl 1 rfl) ?_
          refine lv_iload_n hx hb d_GM_atOperand_55 rfl (lv_at hl 0 rfl) ?_
          obtain ⟨k65, hk65, hF⟩ := jn_of hF
          have join65 : ∀ (T1 : MS) (z65 : Int32) (H : Heap) (locs : List Loc) (ls : Array Slot), k65 T1 z65 = some R → va_P D vwCl (wM G T1) H → va_D A (wM G T1) → va_S A s.heap H locs → lv_has ls 3 [(2, .int x37), (0, .ref (mA G 0)), (1, .int p1)] → W p l e (headSpec ws_GM_atOperand ({ frames := 2, cells := 0, slots := 0, locals := 42 })).room s m ([.ref (mA G 0), .int p1] : List Value).toArray below meth c H locs 0 0 (MQ below (va_Qi (fun (r : Int32) (S' : MS) => (r, S') = R ∧ bl r) (wX D G A) A) ([.ref (mA G 0), .int p1] : List Value).toArray s 0 0 A) (F0 m 65 ls [.int z65, .ref (mA G 0)]) := by
            intro T65 z65 H locs ls hF hP hD hS hl
            rw [hk65] at hF
            refine va_putE (D := D) (ci := 6) (v := .int z65) (ty := .int) (C := R_GM) (T := T_GM) (N := 30) hx hb hts (fun w h => List.mem_cons_of_mem _ (in_GM w h)) t_GM t_GM_ok n_GM hown hK hP hD hS 0 (m_0 G T65) rfl 8 (by decide) (hts _ (List.mem_cons_of_mem _ kw452)) (fun _ h9 => h9) rfl (by decide +kernel) rfl rfl (Nat.le_of_ble_eq_true rfl) (mst_8 G T65 z65) d_GM_atOperand_65 (fun H locs hP hD hS => ?_)
            obtain ⟨S65, eS65⟩ : ∃ y : MS, y = stM T65 0 8 z65 := ⟨_, rfl⟩
            rw [← eS65] at hP hD
            have hF := lt_of hF eS65
            refine lv_aload_n hx hb d_GM_atOperand_68 rfl (lv_at hl 1 rfl) ?_
            obtain ⟨S69, hq69, hF⟩ := bd_of hF
            refine dq_v (va_runV (As := []) (rest := []) ⟨hx, hb, hml, hown, hts⟩ (c_GM_operandEnds l D G S65 _  S69 hq69) (cwV 0 hts (gV kw542 kw543 kw657 kw7 kw544) rfl rfl rfl (by decide +kernel) ⟨by show (0 : Nat) + 1 ≤ 2; omega, by show 8 + (1 + 11) + 0 ≤ 42; omega⟩) ⟨blindM, va_recv (ci := 6) (q0 := 0) hK hP rfl (m_0 G S65), fun U hU hW => ⟨rfl, mPre_of hP hK hD hU hW⟩⟩ rfl rfl hl.1 rfl (lv_room (Nat.le_of_ble_eq_true rfl)) d_GM_atOperand_69 ⟨Nat.zero_le _, Nat.zero_le _⟩) hD hS hA (fun rS69 H locs hw hP hD hS => ?_)
            have hw := hw.symm
            subst hw
            refine lv_iconst (v := 1) hx hb d_GM_atOperand_72 (by decide) ?_
            exact W.zret (v := 1) hx hb hr (bl_nar (Or.inr rfl)) (fun t ht hW => ⟨⟨1, S69, rfl, ⟨Option.some.inj hF, (Or.inr rfl)⟩, by rw [ht]; exact hP, hD⟩, hS.F ht⟩) hS.2.2 d_GM_atOperand_73
          refine lv_if_eq (tgt := 63) hx hb d_GM_atOperand_56 (by decide) (fun c_56 => ?_) (fun c_56 => ?_)
          · have hF := ps_of c_56 hF
            refine lv_bipush (v := 9) hx hb d_GM_atOperand_63 (by decide) ?_
            exact join65 T54 9 _ _ ls hF hP hD hS (lv_sub hl [0, 1, 2] rfl)
          · have hF := ng_of c_56 hF
            refine lv_iconst (v := 1) hx hb d_GM_atOperand_59 (by decide) ?_
            refine lv_goto (tgt := 65) hx hb d_GM_atOperand_60 (by decide) ?_
            exact join65 T54 1 _ _ ls hF hP hD hS (lv_sub hl [0, 1, 2] rfl)
        refine lv_if_ne (tgt := 54) hx hb d_GM_atOperand_42 (by decide) (fun c_42 => ?_) (fun c_42 => ?_)
        · have hF := ng_of c_42 hF
          exact join54 S _ _ ls hF hP hD hS (lv_sub hl [0, 1, 2] rfl)
        · have hF := ps_of c_42 hF
          refine lv_iload_n hx hb d_GM_atOperand_45 rfl (lv_at hl 2 rfl) ?_
          refine vp_callSi (W.runS (As := [.int p1]) (rest := []) ⟨hx, hb, hml, hown, hts⟩ (c_GM_isVariable l p1) (cwS 1 hts (gS kw536 kw537 kw7 kw538) rfl rfl rfl (by decide +kernel) ⟨by show (1 : Nat) + 1 ≤ 2; omega, by show 8 + (1 + 11) + 22 ≤ 42; omega⟩) ⟨blindNM, fun U hU hW => ⟨rfl, trivial⟩⟩ rfl rfl hl.1 rfl (lv_room (Nat.le_of_ble_eq_true rfl)) d_GM_atOperand_46 ⟨Nat.zero_le _, Nat.zero_le _⟩) (fun x46 ex46 => ?_)
          obtain ⟨ex46, bx46⟩ := ex46
          have hF := lt_of hF ex46
          refine lv_if_ne (tgt := 54) hx hb d_GM_atOperand_49 (by decide) (fun c_49 => ?_) (fun c_49 => ?_)
          · have hF := ng_of c_49 hF
            exact join54 S _ _ ls hF hP hD hS (lv_sub hl [0, 1, 2] rfl)
          · have hF := ps_of c_49 hF
            refine lv_iconst (v := 0) hx hb d_GM_atOperand_52 (by decide) ?_
            exact W.zret (v := 0) hx hb hr (bl_nar (Or.inl rfl)) (fun t ht hW => ⟨⟨0, S, rfl, ⟨Option.some.inj hF, (Or.inl rfl)⟩, by rw [ht]; exact hP, hD⟩, hS.F ht⟩) hS.2.2 d_GM_atOperand_53
      · have hF := ps_of c_22 hF
        exact join25 S _ _ ls hF hP hD hS (lv_sub hl [0, 1] rfl)
  · have hF := ps_of c_3 hF
    refine lv_aload_n hx hb d_GM_atOperand_6 rfl (lv_at hl 0 rfl) ?_
    refine lv_iconst (v := 1) hx hb d_GM_atOperand_7 (by decide) ?_
    refine lv_iconst (v := 4) hx hb d_GM_atOperand_8 (by decide) ?_
    obtain ⟨x9, S9, hq9, hF⟩ := bd2_of hF
    refine dq_i (va_runV (As := [.int 1, .int 4]) (rest := []) ⟨hx, hb, hml, hown, hts⟩ (c_GM_push l D G S _ 1 4 (x9, S9) hq9) (cwV 2 hts (gV kw530 kw531 kw654 kw7 kw532) rfl rfl rfl (by decide +kernel) ⟨by show (0 : Nat) + 1 ≤ 2; omega, by show 8 + (3 + 11) + 0 ≤ 42; omega⟩) ⟨blindM, va_recv (ci := 6) (q0 := 0) hK hP rfl (m_0 G S), fun U hU hW => ⟨rfl, mPre_of hP hK hD hU hW⟩⟩ rfl rfl hl.1 rfl (lv_room (Nat.le_of_ble_eq_true rfl)) d_GM_atOperand_9 ⟨Nat.zero_le _, Nat.zero_le _⟩) hD hS hA (fun rx9 rS9 H locs hw hP hD hS => ?_)
    obtain ⟨hw, bx9⟩ := hw
    obtain ⟨h1, h2⟩ := Prod.mk.inj hw
    have h1 := h1.symm
    have h2 := h2.symm
    subst h1
    subst h2
    exact W.zret (v := x9) hx hb hr (bl_nar bx9) (fun t ht hW => ⟨⟨x9, S9, rfl, ⟨Option.some.inj hF, bx9⟩, by rw [ht]; exact hP, hD⟩, hS.F ht⟩) hS.2.2 d_GM_atOperand_12
set_option maxHeartbeats 4000000 in
set_option maxRecDepth 100000 in
theorem c_GM_afterOperand (l : Launch) (D : va_G) (G : MP) (S : MS) (sz : Nat) (p1 : Int32) (R : (Int32 × MS)) (hF : f_GM_afterOperand S p1 = some R) : Met l y_GM_afterOperand ws_GM_afterOperand ({ frames := 1, cells := 0, slots := 0, locals := 22 }) (va_Pc [.ref (mA G 0), .int p1] (mPre D G S sz)) (va_Qi (fun (r : Int32) (S' : MS) => (r, S') = R ∧ bl r) (wX D G (va_A (wM G S) sz)) (va_A (wM G S) sz)) 0 0 (va_A (wM G S) sz) := by
  refine Met.ofW (cc := b_GM_afterOperand) (maxL := 3) (ret := (some .boolean)) (by decide) rfl ?_
  intro p e s m args below meth c s₁ B hml hv
  obtain ⟨rfl, hsz, hP, hK, hD0⟩ := hv
  have hx := B.exec
  have hb := B.bytes
  have hr := B.returns
  have hts := atoms_spec (ws := ws_GM_afterOperand) B.pre
  have hown : s.vm.findClass R_GM = some m.cls := findClass_of_methodNamed B.named
  have hlocks := B.notSynchronized
  subst hsz
  have hD := hD0.self (sz := s.heap.size)
  generalize hAe : va_A (wM G S) s.heap.size = A at hD ⊢
  have hA : ∀ q : Nat, s.heap.size ≤ q → A q := fun q h => by rw [← hAe]; exact Or.inr h
  have hS : va_S A s.heap s.heap [] := va_S.rf
  have hl := lv_entry ([.ref (mA G 0), .int p1]) (n := 3) (Nat.le_of_ble_eq_true rfl)
  rw [lg_entry_eq]
  generalize (lg_sl ([.ref (mA G 0), .int p1]) ++ List.replicate (3 - (lg_sl ([.ref (mA G 0), .int p1])).length) Slot.unset).toArray = ls at hl ⊢
  have hl : lv_has ls 3 [(0, .ref (mA G 0)), (1, .int p1)] := hl
  unfold f_GM_afterOperand at hF
  refine lv_iload_n hx hb d_GM_afterOperand_0 rfl (lv_at hl 1 rfl) ?_
  refine lv_bipush (v := 48) hx hb d_GM_afterOperand_1 (by decide) ?_
  refine lv_bipush (v := 57) hx hb d_GM_afterOperand_3 (by decide) ?_
  refine vp_callSi (W.runS (As := [.int p1, .int 48, .int 57]) (rest := []) ⟨hx, hb, hml, hown, hts⟩ (c_GM_in l p1 48 57) (cwS 3 hts (gS kw510 kw511 kw7 kw512) rfl rfl rfl (by decide +kernel) ⟨by show (0 : Nat) + 1 ≤ 1; omega, by show 8 + (3 + 11) + 0 ≤ 22; omega⟩) ⟨blindNM, fun U hU hW => ⟨rfl, trivial⟩⟩ rfl rfl hl.1 rfl (lv_room (Nat.le_of_ble_eq_true rfl)) d_GM_afterOperand_5 ⟨Nat.zero_le _, Nat.zero_le _⟩) (fun x5 ex5 => ?_)
  obtain ⟨ex5, bx5⟩ := ex5
  have hF := lt_of hF ex5
  refine lv_if_eq (tgt := 35) hx hb d_GM_afterOperand_8 (by decide) (fun c_8 => ?_) (fun c_8 => ?_)
  · have hF := ps_of c_8 hF
    refine lv_aload_n hx hb d_GM_afterOperand_35 rfl (lv_at hl 0 rfl) ?_
    refine va_get (D := D) (ci := 6) (v := .ref (mA G 4)) (C := R_GM) (T := T_GM) (N := 30) hx hb hts (fun w h => List.mem_cons_of_mem _ (in_GM w h)) hown hK hP 0 (m_0 G S) rfl 4 (by decide) (hts _ (List.mem_cons_of_mem _ kw448)) (fun _ h9 => h9) rfl d_GM_afterOperand_36 ?_
    refine lv_aload_n hx hb d_GM_afterOperand_39 rfl (lv_at hl 0 rfl) ?_
    refine va_get (D := D) (ci := 6) (v := .int (S 0 5)) (C := R_GM) (T := T_GM) (N := 30) hx hb hts (fun w h => List.mem_cons_of_mem _ (in_GM w h)) hown hK hP 0 (m_0 G S) rfl 5 (by decide) (hts _ (List.mem_cons_of_mem _ kw449)) (fun _ h9 => h9) rfl d_GM_afterOperand_40 ?_
    refine lv_iconst (v := 1) hx hb d_GM_afterOperand_43 (by decide) ?_
    refine lv_isub hx hb d_GM_afterOperand_44 ?_
    refine lv_topi (fun x44 ex44 => ?_)
    have hF := lt_of hF ex44
    obtain ⟨g45, hF⟩ := gd_of hF
    refine va_iald (D := D) hx hb hK hP 4 0 (m_4 G S) rfl (ix_in g45) d_GM_afterOperand_45 ?_
    refine lv_topi (fun x45 ex45 => ?_)
    have hF := lt_of hF ex45
    refine lv_iconst (v := 1) hx hb d_GM_afterOperand_46 (by decide) ?_
    obtain ⟨k55, hk55, hF⟩ := jn_of hF
    have join55 : ∀ (T1 : MS) (z55 : Int32) (H : Heap) (locs : List Loc) (ls : Array Slot), k55 T1 z55 = some R → va_P D vwCl (wM G T1) H → va_D A (wM G T1) → va_S A s.heap H locs → lv_has ls 3 [(0, .ref (mA G 0)), (1, .int p1)] → W p l e (headSpec ws_GM_afterOperand ({ frames := 1, cells := 0, slots := 0, locals := 22 })).room s m ([.ref (mA G 0), .int p1] : List Value).toArray below meth c H locs 0 0 (MQ below (va_Qi (fun (r : Int32) (S' : MS) => (r, S') = R ∧ bl r) (wX D G A) A) ([.ref (mA G 0), .int p1] : List Value).toArray s 0 0 A) (F0 m 55 ls [.int z55]) := by
      intro T55 z55 H locs ls hF hP hD hS hl
      rw [hk55] at hF
      refine lv_istore_n (lv' := [(2, .int z55), (0, .ref (mA G 0)), (1, .int p1)]) hx hb d_GM_afterOperand_55 rfl hl (by decide) rfl (fun ls hl => ?_)
      refine lv_iload_n hx hb d_GM_afterOperand_56 rfl (lv_at hl 2 rfl) ?_
      refine vp_callSi (W.runS (As := [.int p1]) (rest := []) ⟨hx, hb, hml, hown, hts⟩ (c_GM_isOperator l p1) (cwS 1 hts (gS kw548 kw549 kw7 kw550) rfl rfl rfl (by decide +kernel) ⟨by show (0 : Nat) + 1 ≤ 1; omega, by show 8 + (1 + 11) + 0 ≤ 22; omega⟩) ⟨blindNM, fun U hU hW => ⟨rfl, trivial⟩⟩ rfl rfl hl.1 rfl (lv_room (Nat.le_of_ble_eq_true rfl)) d_GM_afterOperand_57 ⟨Nat.zero_le _, Nat.zero_le _⟩) (fun x57 ex57 => ?_)
      obtain ⟨ex57, bx57⟩ := ex57
      have hF := lt_of hF ex57
      obtain ⟨k164, hk164, hF⟩ := jn_of hF
      have join164 : ∀ (T1 : MS) (H : Heap) (locs : List Loc) (ls : Array Slot), k164 T1 = some R → va_P D vwCl (wM G T1) H → va_D A (wM G T1) → va_S A s.heap H locs → lv_has ls 3 [(2, .int z55), (0, .ref (mA G 0)), (1, .int p1)] → W p l e (headSpec ws_GM_afterOperand ({ frames := 1, cells := 0, slots := 0, locals := 22 })).room s m ([.ref (mA G 0), .int p1] : List Value).toArray below meth c H locs 0 0 (MQ below (va_Qi (fun (r : Int32) (S' : MS) => (r, S') = R ∧ bl r) (wX D G A) A) ([.ref (mA G 0), .int p1] : List Value).toArray s 0 0 A) (F0 m 164 ls []) := by
        intro T164 H locs ls hF hP hD hS hl
        rw [hk164] at hF
        refine lv_iconst (v := 1) hx hb d_GM_afterOperand_164 (by decide) ?_
        exact W.zret (v := 1) hx hb hr (bl_nar (Or.inr rfl)) (fun t ht hW => ⟨⟨1, T164, rfl, ⟨Option.some.inj hF, (Or.inr rfl)⟩, by rw [ht]; exact hP, hD⟩, hS.F ht⟩) hS.2.2 d_GM_afterOperand_165
      refine lv_if_eq (tgt := 71) hx hb d_GM_afterOperand_60 (by decide) (fun c_60 => ?_) (fun c_60 => ?_)
      · have hF := ps_of c_60 hF
        refine lv_iload_n hx hb d_GM_afterOperand_71 rfl (lv_at hl 2 rfl) ?_
        refine lv_bipush (v := 41) hx hb d_GM_afterOperand_72 (by decide) ?_
        obtain ⟨k104, hk104, hF⟩ := jn_of hF
        have join104 : ∀ (T1 : MS) (H : Heap) (locs : List Loc) (ls : Array Slot), k104 T1 = some R → va_P D vwCl (wM G T1) H → va_D A (wM G T1) → va_S A s.heap H locs → lv_has ls 3 [(2, .int z55), (0, .ref (mA G 0)), (1, .int p1)] → W p l e (headSpec ws_GM_afterOperand ({ frames := 1, cells := 0, slots := 0, locals := 22 })).room s m ([.ref (mA G 0), .int p1] : List Value).toArray below meth c H locs 0 0 (MQ below (va_Qi (fun (r : Int32) (S' : MS) => (r, S') = R ∧ bl r) (wX D G A) A) ([.ref (mA G 0), .int p1] : List Value).toArray s 0 0 A) (F0 m 104 ls []) := by
          intro T104 H locs ls hF hP hD hS hl
          rw [hk104] at hF
          refine lv_iload_n hx hb d_GM_afterOperand_104 rfl (lv_at hl 2 rfl) ?_
          refine lv_bipush (v := 59) hx hb d_GM_afterOperand_105 (by decide) ?_
          obtain ⟨k129, hk129, hF⟩ := jn_of hF
          have join129 : ∀ (T1 : MS) (H : Heap) (locs : List Loc) (ls : Array Slot), k129 T1 = some R → va_P D vwCl (wM G T1) H → va_D A (wM G T1) → va_S A s.heap H locs → lv_has ls 3 [(2, .int z55), (0, .ref (mA G 0)), (1, .int p1)] → W p l e (headSpec ws_GM_afterOperand ({ frames := 1, cells := 0, slots := 0, locals := 22 })).room s m ([.ref (mA G 0), .int p1] : List Value).toArray below meth c H locs 0 0 (MQ below (va_Qi (fun (r : Int32) (S' : MS) => (r, S') = R ∧ bl r) (wX D G A) A) ([.ref (mA G 0), .int p1] : List Value).toArray s 0 0 A) (F0 m 129 ls []) := by
            intro T129 H locs ls hF hP hD hS hl
            rw [hk129] at hF
            refine lv_iload_n hx hb d_GM_afterOperand_129 rfl (lv_at hl 2 rfl) ?_
            refine lv_bipush (v := 123) hx hb d_GM_afterOperand_130 (by decide) ?_
            obtain ⟨k163, hk163, hF⟩ := jn_of hF
            have join163 : ∀ (T1 : MS) (z163 : Int32) (H : Heap) (locs : List Loc) (ls : Array Slot), k163 T1 z163 = some R → va_P D vwCl (wM G T1) H → va_D A (wM G T1) → va_S A s.heap H locs → lv_has ls 3 [(2, .int z55), (0, .ref (mA G 0)), (1, .int p1)] → W p l e (headSpec ws_GM_afterOperand ({ frames := 1, cells := 0, slots := 0, locals := 22 })).room s m ([.ref (mA G 0), .int p1] : List Value).toArray below meth c H locs 0 0 (MQ below (va_Qi (fun (r : Int32) (S' : MS) => (r, S') = R ∧ bl r) (wX D G A) A) ([.ref (mA G 0), .int p1] : List Value).toArray s 0 0 A) (F0 m 163 ls [.int z163]) := by
              intro T163 z163 H locs ls hF hP hD hS hl
              rw [hk163] at hF
              obtain ⟨g163, hF⟩ := gd_of hF
              exact W.zret (v := z163) hx hb hr (bl_nar (isB_bl g163)) (fun t ht hW => ⟨⟨z163, T163, rfl, ⟨Option.some.inj hF, (isB_bl g163)⟩, by rw [ht]; exact hP, hD⟩, hS.F ht⟩) hS.2.2 d_GM_afterOperand_163
            obtain ⟨k162, hk162, hF⟩ := jn_of hF
            have join162 : ∀ (T1 : MS) (H : Heap) (locs : List Loc) (ls : Array Slot), k162 T1 = some R → va_P D vwCl (wM G T1) H → va_D A (wM G T1) → va_S A s.heap H locs → lv_has ls 3 [(2, .int z55), (0, .ref (mA G 0)), (1, .int p1)] → W p l e (headSpec ws_GM_afterOperand ({ frames := 1, cells := 0, slots := 0, locals := 22 })).room s m ([.ref (mA G 0), .int p1] : List Value).toArray below meth c H locs 0 0 (MQ below (va_Qi (fun (r : Int32) (S' : MS) => (r, S') = R ∧ bl r) (wX D G A) A) ([.ref (mA G 0), .int p1] : List Value).toArray s 0 0 A) (F0 m 162 ls []) := by
              intro T162 H locs ls hF hP hD hS hl
              rw [hk162] at hF
              refine lv_iconst (v := 0) hx hb d_GM_afterOperand_162 (by decide) ?_
              exact join163 T162 0 _ _ ls hF hP hD hS (lv_sub hl [0, 1, 2] rfl)
            refine lv_icmp_ne (tgt := 162) hx hb d_GM_afterOperand_132 (by decide) (fun c_132 => ?_) (fun c_132 => ?_)
            · have hF := ng_of c_132 hF
              exact join162 T129 _ _ ls hF hP hD hS (lv_sub hl [0, 1, 2] rfl)
            · have hF := ps_of c_132 hF
              refine lv_iload_n hx hb d_GM_afterOperand_135 rfl (lv_at hl 0 rfl) ?_
              refine lv_if_ne (tgt := 162) hx hb d_GM_afterOperand_136 (by decide) (fun c_136 => ?_) (fun c_136 => ?_)
              · have hF := ng_of c_136 hF
                exact join162 T129 _ _ ls hF hP hD hS (lv_sub hl [0, 1, 2] rfl)
              · have hF := ps_of c_136 hF
                refine lv_aload_n hx hb d_GM_afterOperand_139 rfl (lv_at hl 1 rfl) ?_
                refine va_get (D := D) (ci := 6) (v := .int (T129 0 7)) (C := R_GM) (T := T_GM) (N := 30) hx hb hts (fun w h => List.mem_cons_of_mem _ (in_GM w h)) hown hK hP 0 (m_0 G T129) rfl 7 (by decide) (hts _ (List.mem_cons_of_mem _ kw451)) (fun _ h9 => h9) rfl d_GM_afterOperand_140 ?_
                refine lv_if_le (tgt := 162) hx hb d_GM_afterOperand_143 (by decide) (fun c_143 => ?_) (fun c_143 => ?_)
                · have hF := ps_of c_143 hF
                  exact join162 T129 _ _ ls hF hP hD hS (lv_sub hl [0, 1, 2] rfl)
                · have hF := ng_of c_143 hF
                  refine lv_aload_n hx hb d_GM_afterOperand_146 rfl (lv_at hl 1 rfl) ?_
                  refine lv_aload_n hx hb d_GM_afterOperand_147 rfl (lv_at hl 1 rfl) ?_
                  refine va_get (D := D) (ci := 6) (v := .int (T129 0 7)) (C := R_GM) (T := T_GM) (N := 30) hx hb hts (fun w h => List.mem_cons_of_mem _ (in_GM w h)) hown hK hP 0 (m_0 G T129) rfl 7 (by decide) (hts _ (List.mem_cons_of_mem _ kw451)) (fun _ h9 => h9) rfl d_GM_afterOperand_148 ?_
                  refine lv_iconst (v := 2) hx hb d_GM_afterOperand_151 (by decide) ?_
                  obtain ⟨x152, S152, hq152, hF⟩ := bd2_of hF
                  refine dq_i (va_runV (As := [.int (T129 0 7), .int 2]) (rest := []) ⟨hx, hb, hml, hown, hts⟩ (c_GM_push l D G T129 _ (T129 0 7) 2 (x152, S152) hq152) (cwV 2 hts (gV kw530 kw531 kw654 kw7 kw532) rfl rfl rfl (by decide +kernel) ⟨by show (0 : Nat) + 1 ≤ 1; omega, by show 8 + (3 + 11) + 0 ≤ 22; omega⟩) ⟨blindM, va_recv (ci := 6) (q0 := 0) hK hP rfl (m_0 G T129), fun U hU hW => ⟨rfl, mPre_of hP hK hD hU hW⟩⟩ rfl rfl hl.1 rfl (lv_room (Nat.le_of_ble_eq_true rfl)) d_GM_afterOperand_152 ⟨Nat.zero_le _, Nat.zero_le _⟩) hD hS hA (fun rx152 rS152 H locs hw hP hD hS => ?_)
                  obtain ⟨hw, bx152⟩ := hw
                  obtain ⟨h1, h2⟩ := Prod.mk.inj hw
                  have h1 := h1.symm
                  have h2 := h2.symm
                  subst h1
                  subst h2
                  refine lv_if_eq (tgt := 162) hx hb d_GM_afterOperand_155 (by decide) (fun c_155 => ?_) (fun c_155 => ?_)
                  · have hF := ps_of c_155 hF
                    exact join162 S152 _ _ ls hF hP hD hS (lv_sub hl [0, 1, 2] rfl)
                  · have hF := ng_of c_155 hF
                    refine lv_iconst (v := 1) hx hb d_GM_afterOperand_158 (by decide) ?_
                    refine lv_goto (tgt := 163) hx hb d_GM_afterOperand_159 (by decide) ?_
                    exact join163 S152 1 _ _ ls hF hP hD hS (lv_sub hl [0, 1, 2] rfl)
          refine lv_icmp_ne (tgt := 129) hx hb d_GM_afterOperand_107 (by decide) (fun c_107 => ?_) (fun c_107 => ?_)
          · have hF := ng_of c_107 hF
            exact join129 T104 _ _ ls hF hP hD hS (lv_sub hl [0, 1, 2] rfl)
          · have hF := ps_of c_107 hF
            refine lv_iload_n hx hb d_GM_afterOperand_110 rfl (lv_at hl 0 rfl) ?_
            refine lv_if_ne (tgt := 129) hx hb d_GM_afterOperand_111 (by decide) (fun c_111 => ?_) (fun c_111 => ?_)
            · have hF := ng_of c_111 hF
              exact join129 T104 _ _ ls hF hP hD hS (lv_sub hl [0, 1, 2] rfl)
            · have hF := ps_of c_111 hF
              refine lv_aload_n hx hb d_GM_afterOperand_114 rfl (lv_at hl 1 rfl) ?_
              refine va_get (D := D) (ci := 6) (v := .int (T104 0 7)) (C := R_GM) (T := T_GM) (N := 30) hx hb hts (fun w h => List.mem_cons_of_mem _ (in_GM w h)) hown hK hP 0 (m_0 G T104) rfl 7 (by decide) (hts _ (List.mem_cons_of_mem _ kw451)) (fun _ h9 => h9) rfl d_GM_afterOperand_115 ?_
              refine lv_if_ne (tgt := 129) hx hb d_GM_afterOperand_118 (by decide) (fun c_118 => ?_) (fun c_118 => ?_)
              · have hF := ng_of c_118 hF
                exact join129 T104 _ _ ls hF hP hD hS (lv_sub hl [0, 1, 2] rfl)
              · have hF := ps_of c_118 hF
                refine lv_aload_n hx hb d_GM_afterOperand_121 rfl (lv_at hl 1 rfl) ?_
                refine lv_iconst (v := 2) hx hb d_GM_afterOperand_122 (by decide) ?_
                refine va_putE (D := D) (ci := 6) (v := .int 2) (ty := .int) (C := R_GM) (T := T_GM) (N := 30) hx hb hts (fun w h => List.mem_cons_of_mem _ (in_GM w h)) t_GM t_GM_ok n_GM hown hK hP hD hS 0 (m_0 G T104) rfl 6 (by decide) (hts _ (List.mem_cons_of_mem _ kw450)) (fun _ h9 => h9) rfl (by decide +kernel) rfl rfl (Nat.le_of_ble_eq_true rfl) (mst_6 G T104 2) d_GM_afterOperand_123 (fun H locs hP hD hS => ?_)
                obtain ⟨S123, eS123⟩ : ∃ y : MS, y = stM T104 0 6 2 := ⟨_, rfl⟩
                rw [← eS123] at hP hD
                have hF := lt_of hF eS123
                refine lv_goto (tgt := 164) hx hb d_GM_afterOperand_126 (by decide) ?_
                exact join164 S123 _ _ ls hF hP hD hS (lv_sub hl [0, 1, 2] rfl)
        refine lv_icmp_ne (tgt := 104) hx hb d_GM_afterOperand_74 (by decide) (fun c_74 => ?_) (fun c_74 => ?_)
        · have hF := ng_of c_74 hF
          exact join104 T55 _ _ ls hF hP hD hS (lv_sub hl [0, 1, 2] rfl)
        · have hF := ps_of c_74 hF
          refine lv_iload_n hx hb d_GM_afterOperand_77 rfl (lv_at hl 0 rfl) ?_
          refine lv_if_eq (tgt := 104) hx hb d_GM_afterOperand_78 (by decide) (fun c_78 => ?_) (fun c_78 => ?_)
          · have hF := ps_of c_78 hF
            exact join104 T55 _ _ ls hF hP hD hS (lv_sub hl [0, 1, 2] rfl)
          · have hF := ng_of c_78 hF
            refine lv_aload_n hx hb d_GM_afterOperand_81 rfl (lv_at hl 1 rfl) ?_
            refine lv_dup hx hb d_GM_afterOperand_82 rfl ?_
            refine va_get (D := D) (ci := 6) (v := .int (T55 0 5)) (C := R_GM) (T := T_GM) (N := 30) hx hb hts (fun w h => List.mem_cons_of_mem _ (in_GM w h)) hown hK hP 0 (m_0 G T55) rfl 5 (by decide) (hts _ (List.mem_cons_of_mem _ kw449)) (fun _ h9 => h9) rfl d_GM_afterOperand_83 ?_
            refine lv_iconst (v := 1) hx hb d_GM_afterOperand_86 (by decide) ?_
            refine lv_isub hx hb d_GM_afterOperand_87 ?_
            refine lv_topi (fun x87 ex87 => ?_)
            have hF := lt_of hF ex87
            refine va_putE (D := D) (ci := 6) (v := .int x87) (ty := .int) (C := R_GM) (T := T_GM) (N := 30) hx hb hts (fun w h => List.mem_cons_of_mem _ (in_GM w h)) t_GM t_GM_ok n_GM hown hK hP hD hS 0 (m_0 G T55) rfl 5 (by decide) (hts _ (List.mem_cons_of_mem _ kw449)) (fun _ h9 => h9) rfl (by decide +kernel) rfl rfl (Nat.le_of_ble_eq_true rfl) (mst_5 G T55 x87) d_GM_afterOperand_88 (fun H locs hP hD hS => ?_)
            obtain ⟨S88, eS88⟩ : ∃ y : MS, y = stM T55 0 5 x87 := ⟨_, rfl⟩
            rw [← eS88] at hP hD
            have hF := lt_of hF eS88
            refine lv_aload_n hx hb d_GM_afterOperand_91 rfl (lv_at hl 1 rfl) ?_
            refine lv_bipush (v := 9) hx hb d_GM_afterOperand_92 (by decide) ?_
            refine va_putE (D := D) (ci := 6) (v := .int 9) (ty := .int) (C := R_GM) (T := T_GM) (N := 30) hx hb hts (fun w h => List.mem_cons_of_mem _ (in_GM w h)) t_GM t_GM_ok n_GM hown hK hP hD hS 0 (m_0 G S88) rfl 8 (by decide) (hts _ (List.mem_cons_of_mem _ kw452)) (fun _ h9 => h9) rfl (by decide +kernel) rfl rfl (Nat.le_of_ble_eq_true rfl) (mst_8 G S88 9) d_GM_afterOperand_94 (fun H locs hP hD hS => ?_)
            obtain ⟨S94, eS94⟩ : ∃ y : MS, y = stM S88 0 8 9 := ⟨_, rfl⟩
            rw [← eS94] at hP hD
            have hF := lt_of hF eS94
            refine lv_aload_n hx hb d_GM_afterOperand_97 rfl (lv_at hl 1 rfl) ?_
            obtain ⟨S98, hq98, hF⟩ := bd_of hF
            refine dq_v (va_runV (As := []) (rest := []) ⟨hx, hb, hml, hown, hts⟩ (c_GM_operandEnds l D G S94 _  S98 hq98) (cwV 0 hts (gV kw542 kw543 kw657 kw7 kw544) rfl rfl rfl (by decide +kernel) ⟨by show (0 : Nat) + 1 ≤ 1; omega, by show 8 + (1 + 11) + 0 ≤ 22; omega⟩) ⟨blindM, va_recv (ci := 6) (q0 := 0) hK hP rfl (m_0 G S94), fun U hU hW => ⟨rfl, mPre_of hP hK hD hU hW⟩⟩ rfl rfl hl.1 rfl (lv_room (Nat.le_of_ble_eq_true rfl)) d_GM_afterOperand_98 ⟨Nat.zero_le _, Nat.zero_le _⟩) hD hS hA (fun rS98 H locs hw hP hD hS => ?_)
            have hw := hw.symm
            subst hw
            refine lv_goto (tgt := 164) hx hb d_GM_afterOperand_101 (by decide) ?_
            exact join164 S98 _ _ ls hF hP hD hS (lv_sub hl [0, 1, 2] rfl)
      · have hF := ng_of c_60 hF
        refine lv_aload_n hx hb d_GM_afterOperand_63 rfl (lv_at hl 1 rfl) ?_
        refine lv_iconst (v := 4) hx hb d_GM_afterOperand_64 (by decide) ?_
        refine va_putE (D := D) (ci := 6) (v := .int 4) (ty := .int) (C := R_GM) (T := T_GM) (N := 30) hx hb hts (fun w h => List.mem_cons_of_mem _ (in_GM w h)) t_GM t_GM_ok n_GM hown hK hP hD hS 0 (m_0 G T55) rfl 6 (by decide) (hts _ (List.mem_cons_of_mem _ kw450)) (fun _ h9 => h9) rfl (by decide +kernel) rfl rfl (Nat.le_of_ble_eq_true rfl) (mst_6 G T55 4) d_GM_afterOperand_65 (fun H locs hP hD hS => ?_)
        obtain ⟨S65, eS65⟩ : ∃ y : MS, y = stM T55 0 6 4 := ⟨_, rfl⟩
        rw [← eS65] at hP hD
        have hF := lt_of hF eS65
        refine lv_goto (tgt := 164) hx hb d_GM_afterOperand_68 (by decide) ?_
        exact join164 S65 _ _ ls hF hP hD hS (lv_sub hl [0, 1, 2] rfl)
    refine lv_icmp_ne (tgt := 54) hx hb d_GM_afterOperand_47 (by decide) (fun c_47 => ?_) (fun c_47 => ?_)
    · have hF := ng_of c_47 hF
      refine lv_iconst (v := 0) hx hb d_GM_afterOperand_54 (by decide) ?_
      exact join55 S 0 _ _ ls hF hP hD hS (lv_sub hl [0, 1] rfl)
    · have hF := ps_of c_47 hF
      refine lv_iconst (v := 1) hx hb d_GM_afterOperand_50 (by decide) ?_
      refine lv_goto (tgt := 55) hx hb d_GM_afterOperand_51 (by decide) ?_
      exact join55 S 1 _ _ ls hF hP hD hS (lv_sub hl [0, 1] rfl)
  · have hF := ng_of c_8 hF
    refine lv_aload_n hx hb d_GM_afterOperand_11 rfl (lv_at hl 0 rfl) ?_
    refine lv_dup hx hb d_GM_afterOperand_12 rfl ?_
    refine va_get (D := D) (ci := 6) (v := .int (S 0 8)) (C := R_GM) (T := T_GM) (N := 30) hx hb hts (fun w h => List.mem_cons_of_mem _ (in_GM w h)) hown hK hP 0 (m_0 G S) rfl 8 (by decide) (hts _ (List.mem_cons_of_mem _ kw452)) (fun _ h9 => h9) rfl d_GM_afterOperand_13 ?_
    refine lv_iconst (v := 1) hx hb d_GM_afterOperand_16 (by decide) ?_
    refine lv_iadd hx hb d_GM_afterOperand_17 ?_
    refine lv_topi (fun x17 ex17 => ?_)
    have hF := lt_of hF ex17
    refine va_putE (D := D) (ci := 6) (v := .int x17) (ty := .int) (C := R_GM) (T := T_GM) (N := 30) hx hb hts (fun w h => List.mem_cons_of_mem _ (in_GM w h)) t_GM t_GM_ok n_GM hown hK hP hD hS 0 (m_0 G S) rfl 8 (by decide) (hts _ (List.mem_cons_of_mem _ kw452)) (fun _ h9 => h9) rfl (by decide +kernel) rfl rfl (Nat.le_of_ble_eq_true rfl) (mst_8 G S x17) d_GM_afterOperand_18 (fun H locs hP hD hS => ?_)
    obtain ⟨S18, eS18⟩ : ∃ y : MS, y = stM S 0 8 x17 := ⟨_, rfl⟩
    rw [← eS18] at hP hD
    have hF := lt_of hF eS18
    refine lv_aload_n hx hb d_GM_afterOperand_21 rfl (lv_at hl 0 rfl) ?_
    refine va_get (D := D) (ci := 6) (v := .int (S18 0 8)) (C := R_GM) (T := T_GM) (N := 30) hx hb hts (fun w h => List.mem_cons_of_mem _ (in_GM w h)) hown hK hP 0 (m_0 G S18) rfl 8 (by decide) (hts _ (List.mem_cons_of_mem _ kw452)) (fun _ h9 => h9) rfl d_GM_afterOperand_22 ?_
    refine lv_iconst (v := 4) hx hb d_GM_afterOperand_25 (by decide) ?_
    obtain ⟨k34, hk34, hF⟩ := jn_of hF
    have join34 : ∀ (T1 : MS) (z34 : Int32) (H : Heap) (locs : List Loc) (ls : Array Slot), k34 T1 z34 = some R → va_P D vwCl (wM G T1) H → va_D A (wM G T1) → va_S A s.heap H locs → lv_has ls 3 [(0, .ref (mA G 0)), (1, .int p1)] → W p l e (headSpec ws_GM_afterOperand ({ frames := 1, cells := 0, slots := 0, locals := 22 })).room s m ([.ref (mA G 0), .int p1] : List Value).toArray below meth c H locs 0 0 (MQ below (va_Qi (fun (r : Int32) (S' : MS) => (r, S') = R ∧ bl r) (wX D G A) A) ([.ref (mA G 0), .int p1] : List Value).toArray s 0 0 A) (F0 m 34 ls [.int z34]) := by
      intro T34 z34 H locs ls hF hP hD hS hl
      rw [hk34] at hF
      obtain ⟨g34, hF⟩ := gd_of hF
      exact W.zret (v := z34) hx hb hr (bl_nar (isB_bl g34)) (fun t ht hW => ⟨⟨z34, T34, rfl, ⟨Option.some.inj hF, (isB_bl g34)⟩, by rw [ht]; exact hP, hD⟩, hS.F ht⟩) hS.2.2 d_GM_afterOperand_34
    refine lv_icmp_gt (tgt := 33) hx hb d_GM_afterOperand_26 (by decide) (fun c_26 => ?_) (fun c_26 => ?_)
    · have hF := ps_of c_26 hF
      refine lv_iconst (v := 0) hx hb d_GM_afterOperand_33 (by decide) ?_
      exact join34 S18 0 _ _ ls hF hP hD hS (lv_sub hl [0, 1] rfl)
    · have hF := ng_of c_26 hF
      refine lv_iconst (v := 1) hx hb d_GM_afterOperand_29 (by decide) ?_
      refine lv_goto (tgt := 34) hx hb d_GM_afterOperand_30 (by decide) ?_
      exact join34 S18 1 _ _ ls hF hP hD hS (lv_sub hl [0, 1] rfl)
set_option maxHeartbeats 4000000 in
set_option maxRecDepth 100000 in
theorem c_GM_stands (l : Launch) (D : va_G) (G : MP) (S : MS) (sz : Nat) (p1 : Int32) (R : (Int32 × MS)) (hF : f_GM_stands S p1 = some R) : Met l y_GM_stands ws_GM_stands ({ frames := 3, cells := 0, slots := 0, locals := 64 }) (va_Pc [.ref (mA G 0), .int p1] (mPre D G S sz)) (va_Qi (fun (r : Int32) (S' : MS) => (r, S') = R ∧ bl r) (wX D G (va_A (wM G S) sz)) (va_A (wM G S) sz)) 0 0 (va_A (wM G S) sz) := by
  refine Met.ofW (cc := b_GM_stands) (maxL := 3) (ret := (some .boolean)) (by decide) rfl ?_
  intro p e s m args below meth c s₁ B hml hv
  obtain ⟨rfl, hsz, hP, hK, hD0⟩ := hv
  have hx := B.exec
  have hb := B.bytes
  have hr := B.returns
  have hts := atoms_spec (ws := ws_GM_stands) B.pre
  have hown : s.vm.findClass R_GM = some m.cls := findClass_of_methodNamed B.named
  have hlocks := B.notSynchronized
  subst hsz
  have hD := hD0.self (sz := s.heap.size)
  generalize hAe : va_A (wM G S) s.heap.size = A at hD ⊢
  have hA : ∀ q : Nat, s.heap.size ≤ q → A q := fun q h => by rw [← hAe]; exact Or.inr h
  have hS : va_S A s.heap s.heap [] := va_S.rf
  have hl := lv_entry ([.ref (mA G 0), .int p1]) (n := 3) (Nat.le_of_ble_eq_true rfl)
  rw [lg_entry_eq]
  generalize (lg_sl ([.ref (mA G 0), .int p1]) ++ List.replicate (3 - (lg_sl ([.ref (mA G 0), .int p1])).length) Slot.unset).toArray = ls at hl ⊢
  have hl : lv_has ls 3 [(0, .ref (mA G 0)), (1, .int p1)] := hl
  unfold f_GM_stands at hF
  refine lv_aload_n hx hb d_GM_stands_0 rfl (lv_at hl 0 rfl) ?_
  refine va_get (D := D) (ci := 6) (v := .int (S 0 6)) (C := R_GM) (T := T_GM) (N := 30) hx hb hts (fun w h => List.mem_cons_of_mem _ (in_GM w h)) hown hK hP 0 (m_0 G S) rfl 6 (by decide) (hts _ (List.mem_cons_of_mem _ kw450)) (fun _ h9 => h9) rfl d_GM_stands_1 ?_
  refine lv_if_ne (tgt := 22) hx hb d_GM_stands_4 (by decide) (fun c_4 => ?_) (fun c_4 => ?_)
  · have hF := ng_of c_4 hF
    refine lv_aload_n hx hb d_GM_stands_22 rfl (lv_at hl 0 rfl) ?_
    refine va_get (D := D) (ci := 6) (v := .int (S 0 6)) (C := R_GM) (T := T_GM) (N := 30) hx hb hts (fun w h => List.mem_cons_of_mem _ (in_GM w h)) hown hK hP 0 (m_0 G S) rfl 6 (by decide) (hts _ (List.mem_cons_of_mem _ kw450)) (fun _ h9 => h9) rfl d_GM_stands_23 ?_
    refine lv_iconst (v := 1) hx hb d_GM_stands_26 (by decide) ?_
    refine lv_icmp_ne (tgt := 54) hx hb d_GM_stands_27 (by decide) (fun c_27 => ?_) (fun c_27 => ?_)
    · have hF := ng_of c_27 hF
      refine lv_aload_n hx hb d_GM_stands_54 rfl (lv_at hl 0 rfl) ?_
      refine va_get (D := D) (ci := 6) (v := .int (S 0 6)) (C := R_GM) (T := T_GM) (N := 30) hx hb hts (fun w h => List.mem_cons_of_mem _ (in_GM w h)) hown hK hP 0 (m_0 G S) rfl 6 (by decide) (hts _ (List.mem_cons_of_mem _ kw450)) (fun _ h9 => h9) rfl d_GM_stands_55 ?_
      refine lv_iconst (v := 2) hx hb d_GM_stands_58 (by decide) ?_
      refine lv_icmp_ne (tgt := 68) hx hb d_GM_stands_59 (by decide) (fun c_59 => ?_) (fun c_59 => ?_)
      · have hF := ng_of c_59 hF
        refine lv_aload_n hx hb d_GM_stands_68 rfl (lv_at hl 0 rfl) ?_
        refine va_get (D := D) (ci := 6) (v := .int (S 0 6)) (C := R_GM) (T := T_GM) (N := 30) hx hb hts (fun w h => List.mem_cons_of_mem _ (in_GM w h)) hown hK hP 0 (m_0 G S) rfl 6 (by decide) (hts _ (List.mem_cons_of_mem _ kw450)) (fun _ h9 => h9) rfl d_GM_stands_69 ?_
        refine lv_iconst (v := 4) hx hb d_GM_stands_72 (by decide) ?_
        refine lv_icmp_ne (tgt := 82) hx hb d_GM_stands_73 (by decide) (fun c_73 => ?_) (fun c_73 => ?_)
        · have hF := ng_of c_73 hF
          refine lv_aload_n hx hb d_GM_stands_82 rfl (lv_at hl 0 rfl) ?_
          refine va_get (D := D) (ci := 6) (v := .int (S 0 6)) (C := R_GM) (T := T_GM) (N := 30) hx hb hts (fun w h => List.mem_cons_of_mem _ (in_GM w h)) hown hK hP 0 (m_0 G S) rfl 6 (by decide) (hts _ (List.mem_cons_of_mem _ kw450)) (fun _ h9 => h9) rfl d_GM_stands_83 ?_
          refine lv_iconst (v := 5) hx hb d_GM_stands_86 (by decide) ?_
          refine lv_icmp_ne (tgt := 96) hx hb d_GM_stands_87 (by decide) (fun c_87 => ?_) (fun c_87 => ?_)
          · have hF := ng_of c_87 hF
            refine lv_iload_n hx hb d_GM_stands_96 rfl (lv_at hl 1 rfl) ?_
            refine lv_aload_n hx hb d_GM_stands_97 rfl (lv_at hl 0 rfl) ?_
            refine va_get (D := D) (ci := 6) (v := .int (S 0 6)) (C := R_GM) (T := T_GM) (N := 30) hx hb hts (fun w h => List.mem_cons_of_mem _ (in_GM w h)) hown hK hP 0 (m_0 G S) rfl 6 (by decide) (hts _ (List.mem_cons_of_mem _ kw450)) (fun _ h9 => h9) rfl d_GM_stands_98 ?_
            refine lv_iconst (v := 3) hx hb d_GM_stands_101 (by decide) ?_
            obtain ⟨k112, hk112, hF⟩ := jn_of hF
            have join112 : ∀ (T1 : MS) (z112 : Int32) (H : Heap) (locs : List Loc) (ls : Array Slot), k112 T1 z112 = some R → va_P D vwCl (wM G T1) H → va_D A (wM G T1) → va_S A s.heap H locs → lv_has ls 3 [(0, .ref (mA G 0)), (1, .int p1)] → W p l e (headSpec ws_GM_stands ({ frames := 3, cells := 0, slots := 0, locals := 64 })).room s m ([.ref (mA G 0), .int p1] : List Value).toArray below meth c H locs 0 0 (MQ below (va_Qi (fun (r : Int32) (S' : MS) => (r, S') = R ∧ bl r) (wX D G A) A) ([.ref (mA G 0), .int p1] : List Value).toArray s 0 0 A) (F0 m 112 ls [.int z112, .int p1]) := by
              intro T112 z112 H locs ls hF hP hD hS hl
              rw [hk112] at hF
              obtain ⟨k120, hk120, hF⟩ := jn_of hF
              have join120 : ∀ (T1 : MS) (z120 : Int32) (H : Heap) (locs : List Loc) (ls : Array Slot), k120 T1 z120 = some R → va_P D vwCl (wM G T1) H → va_D A (wM G T1) → va_S A s.heap H locs → lv_has ls 3 [(0, .ref (mA G 0)), (1, .int p1)] → W p l e (headSpec ws_GM_stands ({ frames := 3, cells := 0, slots := 0, locals := 64 })).room s m ([.ref (mA G 0), .int p1] : List Value).toArray below meth c H locs 0 0 (MQ below (va_Qi (fun (r : Int32) (S' : MS) => (r, S') = R ∧ bl r) (wX D G A) A) ([.ref (mA G 0), .int p1] : List Value).toArray s 0 0 A) (F0 m 120 ls [.int z120]) := by
                intro T120 z120 H locs ls hF hP hD hS hl
                rw [hk120] at hF
                refine lv_istore_n (lv' := [(2, .int z120), (0, .ref (mA G 0)), (1, .int p1)]) hx hb d_GM_stands_120 rfl hl (by decide) rfl (fun ls hl => ?_)
                refine lv_aload_n hx hb d_GM_stands_121 rfl (lv_at hl 1 rfl) ?_
                refine lv_aload_n hx hb d_GM_stands_122 rfl (lv_at hl 1 rfl) ?_
                refine va_get (D := D) (ci := 6) (v := .int (T120 0 6)) (C := R_GM) (T := T_GM) (N := 30) hx hb hts (fun w h => List.mem_cons_of_mem _ (in_GM w h)) hown hK hP 0 (m_0 G T120) rfl 6 (by decide) (hts _ (List.mem_cons_of_mem _ kw450)) (fun _ h9 => h9) rfl d_GM_stands_123 ?_
                refine lv_iconst (v := 3) hx hb d_GM_stands_126 (by decide) ?_
                obtain ⟨k135, hk135, hF⟩ := jn_of hF
                have join135 : ∀ (T1 : MS) (z135 : Int32) (H : Heap) (locs : List Loc) (ls : Array Slot), k135 T1 z135 = some R → va_P D vwCl (wM G T1) H → va_D A (wM G T1) → va_S A s.heap H locs → lv_has ls 3 [(2, .int z120), (0, .ref (mA G 0)), (1, .int p1)] → W p l e (headSpec ws_GM_stands ({ frames := 3, cells := 0, slots := 0, locals := 64 })).room s m ([.ref (mA G 0), .int p1] : List Value).toArray below meth c H locs 0 0 (MQ below (va_Qi (fun (r : Int32) (S' : MS) => (r, S') = R ∧ bl r) (wX D G A) A) ([.ref (mA G 0), .int p1] : List Value).toArray s 0 0 A) (F0 m 135 ls [.int z135, .ref (mA G 0)]) := by
                  intro T135 z135 H locs ls hF hP hD hS hl
                  rw [hk135] at hF
                  refine va_putE (D := D) (ci := 6) (v := .int z135) (ty := .int) (C := R_GM) (T := T_GM) (N := 30) hx hb hts (fun w h => List.mem_cons_of_mem _ (in_GM w h)) t_GM t_GM_ok n_GM hown hK hP hD hS 0 (m_0 G T135) rfl 6 (by decide) (hts _ (List.mem_cons_of_mem _ kw450)) (fun _ h9 => h9) rfl (by decide +kernel) rfl rfl (Nat.le_of_ble_eq_true rfl) (mst_6 G T135 z135) d_GM_stands_135 (fun H locs hP hD hS => ?_)
                  obtain ⟨S135, eS135⟩ : ∃ y : MS, y = stM T135 0 6 z135 := ⟨_, rfl⟩
                  rw [← eS135] at hP hD
                  have hF := lt_of hF eS135
                  refine lv_iload_n hx hb d_GM_stands_138 rfl (lv_at hl 0 rfl) ?_
                  obtain ⟨g139, hF⟩ := gd_of hF
                  exact W.zret (v := z120) hx hb hr (bl_nar (isB_bl g139)) (fun t ht hW => ⟨⟨z120, S135, rfl, ⟨Option.some.inj hF, (isB_bl g139)⟩, by rw [ht]; exact hP, hD⟩, hS.F ht⟩) hS.2.2 d_GM_stands_139
                refine lv_icmp_ne (tgt := 134) hx hb d_GM_stands_127 (by decide) (fun c_127 => ?_) (fun c_127 => ?_)
                · have hF := ng_of c_127 hF
                  refine lv_iconst (v := 2) hx hb d_GM_stands_134 (by decide) ?_
                  exact join135 T120 2 _ _ ls hF hP hD hS (lv_sub hl [0, 1, 2] rfl)
                · have hF := ps_of c_127 hF
                  refine lv_iconst (v := 4) hx hb d_GM_stands_130 (by decide) ?_
                  refine lv_goto (tgt := 135) hx hb d_GM_stands_131 (by decide) ?_
                  exact join135 T120 4 _ _ ls hF hP hD hS (lv_sub hl [0, 1, 2] rfl)
              refine lv_icmp_ne (tgt := 119) hx hb d_GM_stands_112 (by decide) (fun c_112 => ?_) (fun c_112 => ?_)
              · have hF := ng_of c_112 hF
                refine lv_iconst (v := 0) hx hb d_GM_stands_119 (by decide) ?_
                exact join120 T112 0 _ _ ls hF hP hD hS (lv_sub hl [0, 1] rfl)
              · have hF := ps_of c_112 hF
                refine lv_iconst (v := 1) hx hb d_GM_stands_115 (by decide) ?_
                refine lv_goto (tgt := 120) hx hb d_GM_stands_116 (by decide) ?_
                exact join120 T112 1 _ _ ls hF hP hD hS (lv_sub hl [0, 1] rfl)
            refine lv_icmp_ne (tgt := 110) hx hb d_GM_stands_102 (by decide) (fun c_102 => ?_) (fun c_102 => ?_)
            · have hF := ng_of c_102 hF
              refine lv_bipush (v := 59) hx hb d_GM_stands_110 (by decide) ?_
              exact join112 S 59 _ _ ls hF hP hD hS (lv_sub hl [0, 1] rfl)
            · have hF := ps_of c_102 hF
              refine lv_bipush (v := 61) hx hb d_GM_stands_105 (by decide) ?_
              refine lv_goto (tgt := 112) hx hb d_GM_stands_107 (by decide) ?_
              exact join112 S 61 _ _ ls hF hP hD hS (lv_sub hl [0, 1] rfl)
          · have hF := ps_of c_87 hF
            refine lv_aload_n hx hb d_GM_stands_90 rfl (lv_at hl 0 rfl) ?_
            refine lv_iload_n hx hb d_GM_stands_91 rfl (lv_at hl 1 rfl) ?_
            obtain ⟨x92, S92, hq92, hF⟩ := bd2_of hF
            refine dq_i (va_runV (As := [.int p1]) (rest := []) ⟨hx, hb, hml, hown, hts⟩ (c_GM_afterOperand l D G S _ p1 (x92, S92) hq92) (cwV 1 hts (gV kw545 kw546 kw658 kw7 kw547) rfl rfl rfl (by decide +kernel) ⟨by show (1 : Nat) + 1 ≤ 3; omega, by show 8 + (3 + 11) + 22 ≤ 64; omega⟩) ⟨blindM, va_recv (ci := 6) (q0 := 0) hK hP rfl (m_0 G S), fun U hU hW => ⟨rfl, mPre_of hP hK hD hU hW⟩⟩ rfl rfl hl.1 rfl (lv_room (Nat.le_of_ble_eq_true rfl)) d_GM_stands_92 ⟨Nat.zero_le _, Nat.zero_le _⟩) hD hS hA (fun rx92 rS92 H locs hw hP hD hS => ?_)
            obtain ⟨hw, bx92⟩ := hw
            obtain ⟨h1, h2⟩ := Prod.mk.inj hw
            have h1 := h1.symm
            have h2 := h2.symm
            subst h1
            subst h2
            exact W.zret (v := x92) hx hb hr (bl_nar bx92) (fun t ht hW => ⟨⟨x92, S92, rfl, ⟨Option.some.inj hF, bx92⟩, by rw [ht]; exact hP, hD⟩, hS.F ht⟩) hS.2.2 d_GM_stands_95
        · have hF := ps_of c_73 hF
          refine lv_aload_n hx hb d_GM_stands_76 rfl (lv_at hl 0 rfl) ?_
          refine lv_iload_n hx hb d_GM_stands_77 rfl (lv_at hl 1 rfl) ?_
          obtain ⟨x78, S78, hq78, hF⟩ := bd2_of hF
          refine dq_i (va_runV (As := [.int p1]) (rest := []) ⟨hx, hb, hml, hown, hts⟩ (c_GM_atOperand l D G S _ p1 (x78, S78) hq78) (cwV 1 hts (gV kw539 kw540 kw656 kw7 kw541) rfl rfl rfl (by decide +kernel) ⟨by show (2 : Nat) + 1 ≤ 3; omega, by show 8 + (3 + 11) + 42 ≤ 64; omega⟩) ⟨blindM, va_recv (ci := 6) (q0 := 0) hK hP rfl (m_0 G S), fun U hU hW => ⟨rfl, mPre_of hP hK hD hU hW⟩⟩ rfl rfl hl.1 rfl (lv_room (Nat.le_of_ble_eq_true rfl)) d_GM_stands_78 ⟨Nat.zero_le _, Nat.zero_le _⟩) hD hS hA (fun rx78 rS78 H locs hw hP hD hS => ?_)
          obtain ⟨hw, bx78⟩ := hw
          obtain ⟨h1, h2⟩ := Prod.mk.inj hw
          have h1 := h1.symm
          have h2 := h2.symm
          subst h1
          subst h2
          exact W.zret (v := x78) hx hb hr (bl_nar bx78) (fun t ht hW => ⟨⟨x78, S78, rfl, ⟨Option.some.inj hF, bx78⟩, by rw [ht]; exact hP, hD⟩, hS.F ht⟩) hS.2.2 d_GM_stands_81
      · have hF := ps_of c_59 hF
        refine lv_aload_n hx hb d_GM_stands_62 rfl (lv_at hl 0 rfl) ?_
        refine lv_iload_n hx hb d_GM_stands_63 rfl (lv_at hl 1 rfl) ?_
        obtain ⟨x64, S64, hq64, hF⟩ := bd2_of hF
        refine dq_i (va_runV (As := [.int p1]) (rest := []) ⟨hx, hb, hml, hown, hts⟩ (c_GM_atStatement l D G S _ p1 (x64, S64) hq64) (cwV 1 hts (gV kw533 kw534 kw655 kw7 kw535) rfl rfl rfl (by decide +kernel) ⟨by show (2 : Nat) + 1 ≤ 3; omega, by show 8 + (3 + 11) + 42 ≤ 64; omega⟩) ⟨blindM, va_recv (ci := 6) (q0 := 0) hK hP rfl (m_0 G S), fun U hU hW => ⟨rfl, mPre_of hP hK hD hU hW⟩⟩ rfl rfl hl.1 rfl (lv_room (Nat.le_of_ble_eq_true rfl)) d_GM_stands_64 ⟨Nat.zero_le _, Nat.zero_le _⟩) hD hS hA (fun rx64 rS64 H locs hw hP hD hS => ?_)
        obtain ⟨hw, bx64⟩ := hw
        obtain ⟨h1, h2⟩ := Prod.mk.inj hw
        have h1 := h1.symm
        have h2 := h2.symm
        subst h1
        subst h2
        exact W.zret (v := x64) hx hb hr (bl_nar bx64) (fun t ht hW => ⟨⟨x64, S64, rfl, ⟨Option.some.inj hF, bx64⟩, by rw [ht]; exact hP, hD⟩, hS.F ht⟩) hS.2.2 d_GM_stands_67
    · have hF := ps_of c_27 hF
      refine lv_iload_n hx hb d_GM_stands_30 rfl (lv_at hl 1 rfl) ?_
      refine lv_bipush (v := 123) hx hb d_GM_stands_31 (by decide) ?_
      obtain ⟨k53, hk53, hF⟩ := jn_of hF
      have join53 : ∀ (T1 : MS) (z53 : Int32) (H : Heap) (locs : List Loc) (ls : Array Slot), k53 T1 z53 = some R → va_P D vwCl (wM G T1) H → va_D A (wM G T1) → va_S A s.heap H locs → lv_has ls 3 [(0, .ref (mA G 0)), (1, .int p1)] → W p l e (headSpec ws_GM_stands ({ frames := 3, cells := 0, slots := 0, locals := 64 })).room s m ([.ref (mA G 0), .int p1] : List Value).toArray below meth c H locs 0 0 (MQ below (va_Qi (fun (r : Int32) (S' : MS) => (r, S') = R ∧ bl r) (wX D G A) A) ([.ref (mA G 0), .int p1] : List Value).toArray s 0 0 A) (F0 m 53 ls [.int z53]) := by
        intro T53 z53 H locs ls hF hP hD hS hl
        rw [hk53] at hF
        obtain ⟨g53, hF⟩ := gd_of hF
        exact W.zret (v := z53) hx hb hr (bl_nar (isB_bl g53)) (fun t ht hW => ⟨⟨z53, T53, rfl, ⟨Option.some.inj hF, (isB_bl g53)⟩, by rw [ht]; exact hP, hD⟩, hS.F ht⟩) hS.2.2 d_GM_stands_53
      obtain ⟨k52, hk52, hF⟩ := jn_of hF
      have join52 : ∀ (T1 : MS) (H : Heap) (locs : List Loc) (ls : Array Slot), k52 T1 = some R → va_P D vwCl (wM G T1) H → va_D A (wM G T1) → va_S A s.heap H locs → lv_has ls 3 [(0, .ref (mA G 0)), (1, .int p1)] → W p l e (headSpec ws_GM_stands ({ frames := 3, cells := 0, slots := 0, locals := 64 })).room s m ([.ref (mA G 0), .int p1] : List Value).toArray below meth c H locs 0 0 (MQ below (va_Qi (fun (r : Int32) (S' : MS) => (r, S') = R ∧ bl r) (wX D G A) A) ([.ref (mA G 0), .int p1] : List Value).toArray s 0 0 A) (F0 m 52 ls []) := by
        intro T52 H locs ls hF hP hD hS hl
        rw [hk52] at hF
        refine lv_iconst (v := 0) hx hb d_GM_stands_52 (by decide) ?_
        exact join53 T52 0 _ _ ls hF hP hD hS (lv_sub hl [0, 1] rfl)
      refine lv_icmp_ne (tgt := 52) hx hb d_GM_stands_33 (by decide) (fun c_33 => ?_) (fun c_33 => ?_)
      · have hF := ng_of c_33 hF
        exact join52 S _ _ ls hF hP hD hS (lv_sub hl [0, 1] rfl)
      · have hF := ps_of c_33 hF
        refine lv_aload_n hx hb d_GM_stands_36 rfl (lv_at hl 0 rfl) ?_
        refine lv_aload_n hx hb d_GM_stands_37 rfl (lv_at hl 0 rfl) ?_
        refine va_get (D := D) (ci := 6) (v := .int (S 0 7)) (C := R_GM) (T := T_GM) (N := 30) hx hb hts (fun w h => List.mem_cons_of_mem _ (in_GM w h)) hown hK hP 0 (m_0 G S) rfl 7 (by decide) (hts _ (List.mem_cons_of_mem _ kw451)) (fun _ h9 => h9) rfl d_GM_stands_38 ?_
        refine lv_iconst (v := 2) hx hb d_GM_stands_41 (by decide) ?_
        obtain ⟨x42, S42, hq42, hF⟩ := bd2_of hF
        refine dq_i (va_runV (As := [.int (S 0 7), .int 2]) (rest := []) ⟨hx, hb, hml, hown, hts⟩ (c_GM_push l D G S _ (S 0 7) 2 (x42, S42) hq42) (cwV 2 hts (gV kw530 kw531 kw654 kw7 kw532) rfl rfl rfl (by decide +kernel) ⟨by show (0 : Nat) + 1 ≤ 3; omega, by show 8 + (3 + 11) + 0 ≤ 64; omega⟩) ⟨blindM, va_recv (ci := 6) (q0 := 0) hK hP rfl (m_0 G S), fun U hU hW => ⟨rfl, mPre_of hP hK hD hU hW⟩⟩ rfl rfl hl.1 rfl (lv_room (Nat.le_of_ble_eq_true rfl)) d_GM_stands_42 ⟨Nat.zero_le _, Nat.zero_le _⟩) hD hS hA (fun rx42 rS42 H locs hw hP hD hS => ?_)
        obtain ⟨hw, bx42⟩ := hw
        obtain ⟨h1, h2⟩ := Prod.mk.inj hw
        have h1 := h1.symm
        have h2 := h2.symm
        subst h1
        subst h2
        refine lv_if_eq (tgt := 52) hx hb d_GM_stands_45 (by decide) (fun c_45 => ?_) (fun c_45 => ?_)
        · have hF := ps_of c_45 hF
          exact join52 S42 _ _ ls hF hP hD hS (lv_sub hl [0, 1] rfl)
        · have hF := ng_of c_45 hF
          refine lv_iconst (v := 1) hx hb d_GM_stands_48 (by decide) ?_
          refine lv_goto (tgt := 53) hx hb d_GM_stands_49 (by decide) ?_
          exact join53 S42 1 _ _ ls hF hP hD hS (lv_sub hl [0, 1] rfl)
  · have hF := ps_of c_4 hF
    refine lv_aload_n hx hb d_GM_stands_7 rfl (lv_at hl 0 rfl) ?_
    refine lv_iconst (v := 3) hx hb d_GM_stands_8 (by decide) ?_
    refine va_putE (D := D) (ci := 6) (v := .int 3) (ty := .int) (C := R_GM) (T := T_GM) (N := 30) hx hb hts (fun w h => List.mem_cons_of_mem _ (in_GM w h)) t_GM t_GM_ok n_GM hown hK hP hD hS 0 (m_0 G S) rfl 7 (by decide) (hts _ (List.mem_cons_of_mem _ kw451)) (fun _ h9 => h9) rfl (by decide +kernel) rfl rfl (Nat.le_of_ble_eq_true rfl) (mst_7 G S 3) d_GM_stands_9 (fun H locs hP hD hS => ?_)
    obtain ⟨S9, eS9⟩ : ∃ y : MS, y = stM S 0 7 3 := ⟨_, rfl⟩
    rw [← eS9] at hP hD
    have hF := lt_of hF eS9
    refine lv_aload_n hx hb d_GM_stands_12 rfl (lv_at hl 0 rfl) ?_
    refine lv_iconst (v := 1) hx hb d_GM_stands_13 (by decide) ?_
    refine va_putE (D := D) (ci := 6) (v := .int 1) (ty := .int) (C := R_GM) (T := T_GM) (N := 30) hx hb hts (fun w h => List.mem_cons_of_mem _ (in_GM w h)) t_GM t_GM_ok n_GM hown hK hP hD hS 0 (m_0 G S9) rfl 6 (by decide) (hts _ (List.mem_cons_of_mem _ kw450)) (fun _ h9 => h9) rfl (by decide +kernel) rfl rfl (Nat.le_of_ble_eq_true rfl) (mst_6 G S9 1) d_GM_stands_14 (fun H locs hP hD hS => ?_)
    obtain ⟨S14, eS14⟩ : ∃ y : MS, y = stM S9 0 6 1 := ⟨_, rfl⟩
    rw [← eS14] at hP hD
    have hF := lt_of hF eS14
    refine lv_iload_n hx hb d_GM_stands_17 rfl (lv_at hl 1 rfl) ?_
    refine vp_callSi (W.runS (As := [.int p1]) (rest := []) ⟨hx, hb, hml, hown, hts⟩ (c_GM_isLetter l p1) (cwS 1 hts (gS kw527 kw528 kw7 kw529) rfl rfl rfl (by decide +kernel) ⟨by show (1 : Nat) + 1 ≤ 3; omega, by show 8 + (1 + 11) + 22 ≤ 64; omega⟩) ⟨blindNM, fun U hU hW => ⟨rfl, trivial⟩⟩ rfl rfl hl.1 rfl (lv_room (Nat.le_of_ble_eq_true rfl)) d_GM_stands_18 ⟨Nat.zero_le _, Nat.zero_le _⟩) (fun x18 ex18 => ?_)
    obtain ⟨ex18, bx18⟩ := ex18
    have hF := lt_of hF ex18
    exact W.zret (v := x18) hx hb hr (bl_nar bx18) (fun t ht hW => ⟨⟨x18, S14, rfl, ⟨Option.some.inj hF, bx18⟩, by rw [ht]; exact hP, hD⟩, hS.F ht⟩) hS.2.2 d_GM_stands_21
set_option maxHeartbeats 4000000 in
set_option maxRecDepth 100000 in
theorem c_GM_fault (l : Launch) (D : va_G) (G : MP) (S : MS) (sz : Nat) (p1 : Int32) (R : (Int32 × MS)) (hF : f_GM_fault S p1 = some R) : Met l y_GM_fault ws_GM_fault ({ frames := 4, cells := 0, slots := 0, locals := 86 }) (va_Pc [.ref (mA G 0), .int p1] (mPre D G S sz)) (va_Qi (fun (r : Int32) (S' : MS) => (r, S') = R) (wX D G (va_A (wM G S) sz)) (va_A (wM G S) sz)) 0 0 (va_A (wM G S) sz) := by
  refine Met.ofW (cc := b_GM_fault) (maxL := 3) (ret := (some .int)) (by decide) rfl ?_
  intro p e s m args below meth c s₁ B hml hv
  obtain ⟨rfl, hsz, hP, hK, hD0⟩ := hv
  have hx := B.exec
  have hb := B.bytes
  have hr := B.returns
  have hts := atoms_spec (ws := ws_GM_fault) B.pre
  have hown : s.vm.findClass R_GM = some m.cls := findClass_of_methodNamed B.named
  have hlocks := B.notSynchronized
  subst hsz
  have hD := hD0.self (sz := s.heap.size)
  generalize hAe : va_A (wM G S) s.heap.size = A at hD ⊢
  have hA : ∀ q : Nat, s.heap.size ≤ q → A q := fun q h => by rw [← hAe]; exact Or.inr h
  have hS : va_S A s.heap s.heap [] := va_S.rf
  have hl := lv_entry ([.ref (mA G 0), .int p1]) (n := 3) (Nat.le_of_ble_eq_true rfl)
  rw [lg_entry_eq]
  generalize (lg_sl ([.ref (mA G 0), .int p1]) ++ List.replicate (3 - (lg_sl ([.ref (mA G 0), .int p1])).length) Slot.unset).toArray = ls at hl ⊢
  have hl : lv_has ls 3 [(0, .ref (mA G 0)), (1, .int p1)] := hl
  unfold f_GM_fault at hF
  refine lv_iload_n hx hb d_GM_fault_0 rfl (lv_at hl 1 rfl) ?_
  refine lv_iconst (v := 0) hx hb d_GM_fault_1 (by decide) ?_
  refine lv_iconst (v := 2) hx hb d_GM_fault_2 (by decide) ?_
  refine vp_callSi (W.runS (As := [.int p1, .int 0, .int 2]) (rest := []) ⟨hx, hb, hml, hown, hts⟩ (c_GM_in l p1 0 2) (cwS 3 hts (gS kw510 kw511 kw7 kw512) rfl rfl rfl (by decide +kernel) ⟨by show (0 : Nat) + 1 ≤ 4; omega, by show 8 + (3 + 11) + 0 ≤ 86; omega⟩) ⟨blindNM, fun U hU hW => ⟨rfl, trivial⟩⟩ rfl rfl hl.1 rfl (lv_room (Nat.le_of_ble_eq_true rfl)) d_GM_fault_3 ⟨Nat.zero_le _, Nat.zero_le _⟩) (fun x3 ex3 => ?_)
  obtain ⟨ex3, bx3⟩ := ex3
  have hF := lt_of hF ex3
  refine lv_if_ne (tgt := 11) hx hb d_GM_fault_6 (by decide) (fun c_6 => ?_) (fun c_6 => ?_)
  · have hF := ng_of c_6 hF
    refine lv_aload_n hx hb d_GM_fault_11 rfl (lv_at hl 0 rfl) ?_
    refine lv_iconst (v := 0) hx hb d_GM_fault_12 (by decide) ?_
    refine va_putE (D := D) (ci := 6) (v := .int 0) (ty := .int) (C := R_GM) (T := T_GM) (N := 30) hx hb hts (fun w h => List.mem_cons_of_mem _ (in_GM w h)) t_GM t_GM_ok n_GM hown hK hP hD hS 0 (m_0 G S) rfl 5 (by decide) (hts _ (List.mem_cons_of_mem _ kw449)) (fun _ h9 => h9) rfl (by decide +kernel) rfl rfl (Nat.le_of_ble_eq_true rfl) (mst_5 G S 0) d_GM_fault_13 (fun H locs hP hD hS => ?_)
    obtain ⟨S13, eS13⟩ : ∃ y : MS, y = stM S 0 5 0 := ⟨_, rfl⟩
    rw [← eS13] at hP hD
    have hF := lt_of hF eS13
    refine lv_aload_n hx hb d_GM_fault_16 rfl (lv_at hl 0 rfl) ?_
    refine lv_iconst (v := 0) hx hb d_GM_fault_17 (by decide) ?_
    refine va_putE (D := D) (ci := 6) (v := .int 0) (ty := .int) (C := R_GM) (T := T_GM) (N := 30) hx hb hts (fun w h => List.mem_cons_of_mem _ (in_GM w h)) t_GM t_GM_ok n_GM hown hK hP hD hS 0 (m_0 G S13) rfl 6 (by decide) (hts _ (List.mem_cons_of_mem _ kw450)) (fun _ h9 => h9) rfl (by decide +kernel) rfl rfl (Nat.le_of_ble_eq_true rfl) (mst_6 G S13 0) d_GM_fault_18 (fun H locs hP hD hS => ?_)
    obtain ⟨S18, eS18⟩ : ∃ y : MS, y = stM S13 0 6 0 := ⟨_, rfl⟩
    rw [← eS18] at hP hD
    have hF := lt_of hF eS18
    refine lv_aload_n hx hb d_GM_fault_21 rfl (lv_at hl 0 rfl) ?_
    refine lv_iconst (v := 0) hx hb d_GM_fault_22 (by decide) ?_
    refine va_putE (D := D) (ci := 6) (v := .int 0) (ty := .boolean) (C := R_GM) (T := T_GM) (N := 30) hx hb hts (fun w h => List.mem_cons_of_mem _ (in_GM w h)) t_GM t_GM_ok n_GM hown hK hP hD hS 0 (m_0 G S18) rfl 9 (by decide) (hts _ (List.mem_cons_of_mem _ kw453)) (fun _ h9 => h9) rfl (by decide +kernel) (bl_nar (Or.inl rfl)) (bl_fit (Or.inl rfl)) (Nat.le_of_ble_eq_true rfl) (mst_9 G S18 0) d_GM_fault_23 (fun H locs hP hD hS => ?_)
    obtain ⟨S23, eS23⟩ : ∃ y : MS, y = stM S18 0 9 0 := ⟨_, rfl⟩
    rw [← eS23] at hP hD
    have hF := lt_of hF eS23
    refine lv_iconst (v := 0) hx hb d_GM_fault_26 (by decide) ?_
    refine lv_istore_n (lv' := [(2, .int 0), (0, .ref (mA G 0)), (1, .int p1)]) hx hb d_GM_fault_27 rfl hl (by decide) rfl (fun ls hl => ?_)
    have loop28 : ∀ (K28 : MS → Int32 → Option (Int32 × MS)) (hexit : ∀ (S1 : MS) (y28_2 : Int32) (H : Heap) (locs : List Loc) (ls : Array Slot), K28 S1 y28_2 = some R → va_P D vwCl (wM G S1) H → va_D A (wM G S1) → va_S A s.heap H locs → lv_has ls 3 [(2, .int y28_2), (0, .ref (mA G 0)), (1, .int p1)] → W p l e (headSpec ws_GM_fault ({ frames := 4, cells := 0, slots := 0, locals := 86 })).room s m ([.ref (mA G 0), .int p1] : List Value).toArray below meth c H locs 0 0 (MQ below (va_Qi (fun (r : Int32) (S' : MS) => (r, S') = R) (wX D G A) A) ([.ref (mA G 0), .int p1] : List Value).toArray s 0 0 A) (F0 m 64 ls [])) (n : Nat) (S1 : MS) (y28_2 : Int32) (H : Heap) (locs : List Loc) (ls : Array Slot), q_GM_fault_28 n S1 p1 y28_2 K28 = some R → va_P D vwCl (wM G S1) H → va_D A (wM G S1) → va_S A s.heap H locs → lv_has ls 3 [(2, .int y28_2), (0, .ref (mA G 0)), (1, .int p1)] → W p l e (headSpec ws_GM_fault ({ frames := 4, cells := 0, slots := 0, locals := 86 })).room s m ([.ref (mA G 0), .int p1] : List Value).toArray below meth c H locs 0 0 (MQ below (va_Qi (fun (r : Int32) (S' : MS) => (r, S') = R) (wX D G A) A) ([.ref (mA G 0), .int p1] : List Value).toArray s 0 0 A) (F0 m 28 ls []) := by
      intro K28 hexit28 n
      induction n with
      | zero => intro S1 y28_2 H locs ls hF; exact nomatch (show (none : Option (Int32 × MS)) = some R from hF)
      | succ n ih28 =>
        intro S28 y28_2 H locs ls hF hP hD hS hl
        rw [q_GM_fault_28] at hF
        refine lv_iload_n hx hb d_GM_fault_28 rfl (lv_at hl 0 rfl) ?_
        refine lv_aload_n hx hb d_GM_fault_29 rfl (lv_at hl 1 rfl) ?_
        refine va_get (D := D) (ci := 6) (v := .ref (mA G 2)) (C := R_GM) (T := T_GM) (N := 30) hx hb hts (fun w h => List.mem_cons_of_mem _ (in_GM w h)) hown hK hP 0 (m_0 G S28) rfl 1 (by decide) (hts _ (List.mem_cons_of_mem _ kw445)) (fun _ h9 => h9) rfl d_GM_fault_30 ?_
        refine lv_iload_n hx hb d_GM_fault_33 rfl (lv_at hl 2 rfl) ?_
        obtain ⟨g34, hF⟩ := gd_of hF
        refine va_iald (D := D) hx hb hK hP 2 0 (m_2 G S28) rfl (ix_in g34) d_GM_fault_34 ?_
        refine lv_topi (fun x34 ex34 => ?_)
        have hF := lt_of hF ex34
        refine lv_icmp_ge (tgt := 64) hx hb d_GM_fault_35 (by decide) (fun c_35 => ?_) (fun c_35 => ?_)
        · have hF := ps_of c_35 hF
          exact hexit28 S28 y28_2 _ _ ls hF hP hD hS (lv_sub hl [0, 1, 2] rfl)
        · have hF := ng_of c_35 hF
          refine lv_aload_n hx hb d_GM_fault_38 rfl (lv_at hl 1 rfl) ?_
          refine lv_aload_n hx hb d_GM_fault_39 rfl (lv_at hl 1 rfl) ?_
          refine va_get (D := D) (ci := 6) (v := .ref (mA G 1)) (C := R_GM) (T := T_GM) (N := 30) hx hb hts (fun w h => List.mem_cons_of_mem _ (in_GM w h)) hown hK hP 0 (m_0 G S28) rfl 0 (by decide) (hts _ (List.mem_cons_of_mem _ kw444)) (fun _ h9 => h9) rfl d_GM_fault_40 ?_
          refine lv_bipush (v := 60) hx hb d_GM_fault_43 (by decide) ?_
          refine lv_iload_n hx hb d_GM_fault_45 rfl (lv_at hl 2 rfl) ?_
          refine lv_imul hx hb d_GM_fault_46 ?_
          refine lv_topi (fun x46 ex46 => ?_)
          have hF := lt_of hF ex46
          refine lv_iload_n hx hb d_GM_fault_47 rfl (lv_at hl 0 rfl) ?_
          refine lv_iadd hx hb d_GM_fault_48 ?_
          refine lv_topi (fun x48 ex48 => ?_)
          have hF := lt_of hF ex48
          obtain ⟨g49, hF⟩ := gd_of hF
          refine va_iald (D := D) hx hb hK hP 1 0 (m_1 G S28) rfl (ix_in g49) d_GM_fault_49 ?_
          refine lv_topi (fun x49 ex49 => ?_)
          have hF := lt_of hF ex49
          obtain ⟨x50, S50, hq50, hF⟩ := bd2_of hF
          refine dq_i (va_runV (As := [.int x49]) (rest := []) ⟨hx, hb, hml, hown, hts⟩ (c_GM_stands l D G S28 _ x49 (x50, S50) hq50) (cwV 1 hts (gV kw524 kw525 kw653 kw7 kw526) rfl rfl rfl (by decide +kernel) ⟨by show (3 : Nat) + 1 ≤ 4; omega, by show 8 + (3 + 11) + 64 ≤ 86; omega⟩) ⟨blindM, va_recv (ci := 6) (q0 := 0) hK hP rfl (m_0 G S28), fun U hU hW => ⟨rfl, mPre_of hP hK hD hU hW⟩⟩ rfl rfl hl.1 rfl (lv_room (Nat.le_of_ble_eq_true rfl)) d_GM_fault_50 ⟨Nat.zero_le _, Nat.zero_le _⟩) hD hS hA (fun rx50 rS50 H locs hw hP hD hS => ?_)
          obtain ⟨hw, bx50⟩ := hw
          obtain ⟨h1, h2⟩ := Prod.mk.inj hw
          have h1 := h1.symm
          have h2 := h2.symm
          subst h1
          subst h2
          refine lv_if_ne (tgt := 58) hx hb d_GM_fault_53 (by decide) (fun c_53 => ?_) (fun c_53 => ?_)
          · have hF := ng_of c_53 hF
            obtain ⟨x58, ex58⟩ : ∃ y : Int32, y = y28_2 + 1 := ⟨_, rfl⟩
            have hF := lt_of hF ex58
            refine lv_iinc (v := x58) (lv' := [(2, .int x58), (0, .ref (mA G 0)), (1, .int p1)]) hx hb d_GM_fault_58 hl (k := 0) rfl (by rw [ex58]; rfl) (by decide) rfl (fun ls hl => ?_)
            refine lv_goto (tgt := 28) hx hb d_GM_fault_61 (by decide) ?_
            exact ih28 S50 x58 _ _ ls hF hP hD hS (lv_sub hl [0, 1, 2] rfl)
          · have hF := ps_of c_53 hF
            refine lv_iload_n hx hb d_GM_fault_56 rfl (lv_at hl 0 rfl) ?_
            exact W.iret (v := y28_2) hx hb hr (fun t ht hW => ⟨⟨y28_2, S50, rfl, Option.some.inj hF, by rw [ht]; exact hP, hD⟩, hS.F ht⟩) hS.2.2 d_GM_fault_57
    refine loop28 _ ?_ (fz 2000) S23 0 _ _ ls hF hP hD hS hl
    intro S64 y64_2 H locs ls hF hP hD hS hl
    refine lv_aload_n hx hb d_GM_fault_64 rfl (lv_at hl 1 rfl) ?_
    refine va_get (D := D) (ci := 6) (v := .int (S64 0 6)) (C := R_GM) (T := T_GM) (N := 30) hx hb hts (fun w h => List.mem_cons_of_mem _ (in_GM w h)) hown hK hP 0 (m_0 G S64) rfl 6 (by decide) (hts _ (List.mem_cons_of_mem _ kw450)) (fun _ h9 => h9) rfl d_GM_fault_65 ?_
    obtain ⟨k82, hk82, hF⟩ := jn_of hF
    have join82 : ∀ (T1 : MS) (z82 : Int32) (H : Heap) (locs : List Loc) (ls : Array Slot), k82 T1 z82 = some R → va_P D vwCl (wM G T1) H → va_D A (wM G T1) → va_S A s.heap H locs → lv_has ls 3 [(2, .int y64_2), (0, .ref (mA G 0)), (1, .int p1)] → W p l e (headSpec ws_GM_fault ({ frames := 4, cells := 0, slots := 0, locals := 86 })).room s m ([.ref (mA G 0), .int p1] : List Value).toArray below meth c H locs 0 0 (MQ below (va_Qi (fun (r : Int32) (S' : MS) => (r, S') = R) (wX D G A) A) ([.ref (mA G 0), .int p1] : List Value).toArray s 0 0 A) (F0 m 82 ls [.int z82]) := by
      intro T82 z82 H locs ls hF hP hD hS hl
      rw [hk82] at hF
      exact W.iret (v := z82) hx hb hr (fun t ht hW => ⟨⟨z82, T82, rfl, Option.some.inj hF, by rw [ht]; exact hP, hD⟩, hS.F ht⟩) hS.2.2 d_GM_fault_82
    refine lv_if_ne (tgt := 76) hx hb d_GM_fault_68 (by decide) (fun c_68 => ?_) (fun c_68 => ?_)
    · have hF := ng_of c_68 hF
      refine lv_aload_n hx hb d_GM_fault_76 rfl (lv_at hl 1 rfl) ?_
      refine va_get (D := D) (ci := 6) (v := .ref (mA G 2)) (C := R_GM) (T := T_GM) (N := 30) hx hb hts (fun w h => List.mem_cons_of_mem _ (in_GM w h)) hown hK hP 0 (m_0 G S64) rfl 1 (by decide) (hts _ (List.mem_cons_of_mem _ kw445)) (fun _ h9 => h9) rfl d_GM_fault_77 ?_
      refine lv_iload_n hx hb d_GM_fault_80 rfl (lv_at hl 2 rfl) ?_
      obtain ⟨g81, hF⟩ := gd_of hF
      refine va_iald (D := D) hx hb hK hP 2 0 (m_2 G S64) rfl (ix_in g81) d_GM_fault_81 ?_
      refine lv_topi (fun x81 ex81 => ?_)
      have hF := lt_of hF ex81
      exact join82 S64 x81 _ _ ls hF hP hD hS (lv_sub hl [0, 1, 2] rfl)
    · have hF := ps_of c_68 hF
      refine lv_bipush (v := (-2)) hx hb d_GM_fault_71 (by decide) ?_
      refine lv_goto (tgt := 82) hx hb d_GM_fault_73 (by decide) ?_
      exact join82 S64 (-2) _ _ ls hF hP hD hS (lv_sub hl [0, 1, 2] rfl)
  · have hF := ps_of c_6 hF
    refine lv_iconst (v := (-1)) hx hb d_GM_fault_9 (by decide) ?_
    exact W.iret (v := (-1)) hx hb hr (fun t ht hW => ⟨⟨(-1), S, rfl, Option.some.inj hF, by rw [ht]; exact hP, hD⟩, hS.F ht⟩) hS.2.2 d_GM_fault_10
set_option maxHeartbeats 4000000 in
set_option maxRecDepth 100000 in
theorem c_GM_map (l : Launch) (D : va_G) (G : MP) (S : MS) (sz : Nat) (p1 : Int32) (R : (Int32 × MS)) (hF : f_GM_map S p1 = some R) : Met l y_GM_map ws_GM_map ({ frames := 2, cells := 0, slots := 0, locals := 42 }) (va_Pc [.ref (mA G 0), .int p1] (mPre D G S sz)) (va_Qi (fun (r : Int32) (S' : MS) => (r, S') = R) (wX D G (va_A (wM G S) sz)) (va_A (wM G S) sz)) 0 0 (va_A (wM G S) sz) := by
  refine Met.ofW (cc := b_GM_map) (maxL := 11) (ret := (some .int)) (by decide) rfl ?_
  intro p e s m args below meth c s₁ B hml hv
  obtain ⟨rfl, hsz, hP, hK, hD0⟩ := hv
  have hx := B.exec
  have hb := B.bytes
  have hr := B.returns
  have hts := atoms_spec (ws := ws_GM_map) B.pre
  have hown : s.vm.findClass R_GM = some m.cls := findClass_of_methodNamed B.named
  have hlocks := B.notSynchronized
  subst hsz
  have hD := hD0.self (sz := s.heap.size)
  generalize hAe : va_A (wM G S) s.heap.size = A at hD ⊢
  have hA : ∀ q : Nat, s.heap.size ≤ q → A q := fun q h => by rw [← hAe]; exact Or.inr h
  have hS : va_S A s.heap s.heap [] := va_S.rf
  have hl := lv_entry ([.ref (mA G 0), .int p1]) (n := 11) (Nat.le_of_ble_eq_true rfl)
  rw [lg_entry_eq]
  generalize (lg_sl ([.ref (mA G 0), .int p1]) ++ List.replicate (11 - (lg_sl ([.ref (mA G 0), .int p1])).length) Slot.unset).toArray = ls at hl ⊢
  have hl : lv_has ls 11 [(0, .ref (mA G 0)), (1, .int p1)] := hl
  unfold f_GM_map at hF
  refine lv_bipush (v := 60) hx hb d_GM_map_0 (by decide) ?_
  refine lv_iload_n hx hb d_GM_map_2 rfl (lv_at hl 1 rfl) ?_
  refine lv_imul hx hb d_GM_map_3 ?_
  refine lv_topi (fun x3 ex3 => ?_)
  have hF := lt_of hF ex3
  refine lv_istore_n (lv' := [(2, .int x3), (0, .ref (mA G 0)), (1, .int p1)]) hx hb d_GM_map_4 rfl hl (by decide) rfl (fun ls hl => ?_)
  refine lv_iconst (v := 0) hx hb d_GM_map_5 (by decide) ?_
  refine lv_istore_n (lv' := [(3, .int 0), (2, .int x3), (0, .ref (mA G 0)), (1, .int p1)]) hx hb d_GM_map_6 rfl hl (by decide) rfl (fun ls hl => ?_)
  refine lv_iconst (v := 0) hx hb d_GM_map_7 (by decide) ?_
  refine lv_istore (lv' := [(4, .int 0), (3, .int 0), (2, .int x3), (0, .ref (mA G 0)), (1, .int p1)]) hx hb d_GM_map_8 hl (by decide) rfl (fun ls hl => ?_)
  refine lv_iconst (v := 0) hx hb d_GM_map_10 (by decide) ?_
  refine lv_istore (lv' := [(5, .int 0), (4, .int 0), (3, .int 0), (2, .int x3), (0, .ref (mA G 0)), (1, .int p1)]) hx hb d_GM_map_11 hl (by decide) rfl (fun ls hl => ?_)
  refine lv_iconst (v := 0) hx hb d_GM_map_13 (by decide) ?_
  refine lv_istore (lv' := [(6, .int 0), (5, .int 0), (4, .int 0), (3, .int 0), (2, .int x3), (0, .ref (mA G 0)), (1, .int p1)]) hx hb d_GM_map_14 hl (by decide) rfl (fun ls hl => ?_)
  refine lv_iconst (v := 0) hx hb d_GM_map_16 (by decide) ?_
  refine lv_istore (lv' := [(7, .int 0), (6, .int 0), (5, .int 0), (4, .int 0), (3, .int 0), (2, .int x3), (0, .ref (mA G 0)), (1, .int p1)]) hx hb d_GM_map_17 hl (by decide) rfl (fun ls hl => ?_)
  refine lv_iconst (v := 0) hx hb d_GM_map_19 (by decide) ?_
  refine lv_istore (lv' := [(8, .int 0), (7, .int 0), (6, .int 0), (5, .int 0), (4, .int 0), (3, .int 0), (2, .int x3), (0, .ref (mA G 0)), (1, .int p1)]) hx hb d_GM_map_20 hl (by decide) rfl (fun ls hl => ?_)
  refine lv_iload_n hx hb d_GM_map_22 rfl (lv_at hl 6 rfl) ?_
  refine lv_istore (lv' := [(9, .int x3), (8, .int 0), (7, .int 0), (6, .int 0), (5, .int 0), (4, .int 0), (3, .int 0), (2, .int x3), (0, .ref (mA G 0)), (1, .int p1)]) hx hb d_GM_map_23 hl (by decide) rfl (fun ls hl => ?_)
  have loop25 : ∀ (K25 : MS → Int32 → Int32 → Int32 → Int32 → Int32 → Int32 → Int32 → Option (Int32 × MS)) (hexit : ∀ (S1 : MS) (y25_4 : Int32) (y25_6 : Int32) (y25_5 : Int32) (y25_7 : Int32) (y25_3 : Int32) (y25_8 : Int32) (y25_9 : Int32) (H : Heap) (locs : List Loc) (ls : Array Slot), K25 S1 y25_4 y25_6 y25_5 y25_7 y25_3 y25_8 y25_9 = some R → va_P D vwCl (wM G S1) H → va_D A (wM G S1) → va_S A s.heap H locs → lv_has ls 11 [(9, .int y25_9), (8, .int y25_8), (7, .int y25_7), (6, .int y25_6), (5, .int y25_5), (4, .int y25_4), (3, .int y25_3), (2, .int x3), (0, .ref (mA G 0)), (1, .int p1)] → W p l e (headSpec ws_GM_map ({ frames := 2, cells := 0, slots := 0, locals := 42 })).room s m ([.ref (mA G 0), .int p1] : List Value).toArray below meth c H locs 0 0 (MQ below (va_Qi (fun (r : Int32) (S' : MS) => (r, S') = R) (wX D G A) A) ([.ref (mA G 0), .int p1] : List Value).toArray s 0 0 A) (F0 m 320 ls [])) (n : Nat) (S1 : MS) (y25_4 : Int32) (y25_6 : Int32) (y25_5 : Int32) (y25_7 : Int32) (y25_3 : Int32) (y25_8 : Int32) (y25_9 : Int32) (H : Heap) (locs : List Loc) (ls : Array Slot), q_GM_map_25 n S1 x3 p1 y25_4 y25_6 y25_5 y25_7 y25_3 y25_8 y25_9 K25 = some R → va_P D vwCl (wM G S1) H → va_D A (wM G S1) → va_S A s.heap H locs → lv_has ls 11 [(9, .int y25_9), (8, .int y25_8), (7, .int y25_7), (6, .int y25_6), (5, .int y25_5), (4, .int y25_4), (3, .int y25_3), (2, .int x3), (0, .ref (mA G 0)), (1, .int p1)] → W p l e (headSpec ws_GM_map ({ frames := 2, cells := 0, slots := 0, locals := 42 })).room s m ([.ref (mA G 0), .int p1] : List Value).toArray below meth c H locs 0 0 (MQ below (va_Qi (fun (r : Int32) (S' : MS) => (r, S') = R) (wX D G A) A) ([.ref (mA G 0), .int p1] : List Value).toArray s 0 0 A) (F0 m 25 ls []) := by
    intro K25 hexit25 n
    induction n with
    | zero => intro S1 y25_4 y25_6 y25_5 y25_7 y25_3 y25_8 y25_9 H locs ls hF; exact nomatch (show (none : Option (Int32 × MS)) = some R from hF)
    | succ n ih25 =>
      intro S25 y25_4 y25_6 y25_5 y25_7 y25_3 y25_8 y25_9 H locs ls hF hP hD hS hl
      rw [q_GM_map_25] at hF
      refine lv_iload hx hb d_GM_map_25 (lv_at hl 0 rfl) ?_
      refine lv_iload_n hx hb d_GM_map_27 rfl (lv_at hl 7 rfl) ?_
      refine lv_aload_n hx hb d_GM_map_28 rfl (lv_at hl 8 rfl) ?_
      refine va_get (D := D) (ci := 6) (v := .ref (mA G 2)) (C := R_GM) (T := T_GM) (N := 30) hx hb hts (fun w h => List.mem_cons_of_mem _ (in_GM w h)) hown hK hP 0 (m_0 G S25) rfl 1 (by decide) (hts _ (List.mem_cons_of_mem _ kw445)) (fun _ h9 => h9) rfl d_GM_map_29 ?_
      refine lv_iload_n hx hb d_GM_map_32 rfl (lv_at hl 9 rfl) ?_
      obtain ⟨g33, hF⟩ := gd_of hF
      refine va_iald (D := D) hx hb hK hP 2 0 (m_2 G S25) rfl (ix_in g33) d_GM_map_33 ?_
      refine lv_topi (fun x33 ex33 => ?_)
      have hF := lt_of hF ex33
      refine lv_iadd hx hb d_GM_map_34 ?_
      refine lv_topi (fun x34 ex34 => ?_)
      have hF := lt_of hF ex34
      refine lv_icmp_ge (tgt := 320) hx hb d_GM_map_35 (by decide) (fun c_35 => ?_) (fun c_35 => ?_)
      · have hF := ps_of c_35 hF
        exact hexit25 S25 y25_4 y25_6 y25_5 y25_7 y25_3 y25_8 y25_9 _ _ ls hF hP hD hS (lv_sub hl [0, 1, 2, 3, 4, 5, 6, 7, 8, 9] rfl)
      · have hF := ng_of c_35 hF
        refine lv_aload_n hx hb d_GM_map_38 rfl (lv_at hl 8 rfl) ?_
        refine va_get (D := D) (ci := 6) (v := .ref (mA G 1)) (C := R_GM) (T := T_GM) (N := 30) hx hb hts (fun w h => List.mem_cons_of_mem _ (in_GM w h)) hown hK hP 0 (m_0 G S25) rfl 0 (by decide) (hts _ (List.mem_cons_of_mem _ kw444)) (fun _ h9 => h9) rfl d_GM_map_39 ?_
        refine lv_iload hx hb d_GM_map_42 (lv_at hl 0 rfl) ?_
        obtain ⟨g44, hF⟩ := gd_of hF
        refine va_iald (D := D) hx hb hK hP 1 0 (m_1 G S25) rfl (ix_in g44) d_GM_map_44 ?_
        refine lv_topi (fun x44 ex44 => ?_)
        have hF := lt_of hF ex44
        refine lv_istore (lv' := [(10, .int x44), (9, .int y25_9), (8, .int y25_8), (7, .int y25_7), (6, .int y25_6), (5, .int y25_5), (4, .int y25_4), (3, .int y25_3), (2, .int x3), (0, .ref (mA G 0)), (1, .int p1)]) hx hb d_GM_map_45 hl (by decide) rfl (fun ls hl => ?_)
        refine lv_aload_n hx hb d_GM_map_47 rfl (lv_at hl 9 rfl) ?_
        refine va_get (D := D) (ci := 6) (v := .ref (mA G 9)) (C := R_GM) (T := T_GM) (N := 30) hx hb hts (fun w h => List.mem_cons_of_mem _ (in_GM w h)) hown hK hP 0 (m_0 G S25) rfl 14 (by decide) (hts _ (List.mem_cons_of_mem _ kw458)) (fun _ h9 => h9) rfl d_GM_map_48 ?_
        refine lv_iload hx hb d_GM_map_51 (lv_at hl 1 rfl) ?_
        refine lv_iload hx hb d_GM_map_53 (lv_at hl 4 rfl) ?_
        obtain ⟨g55, hF⟩ := gd_of hF
        refine va_iastE (D := D) hx hb hK hP hD hS 9 0 (m_9 G S25) rfl (ix_in g55) (msta_9 G S25 y25_9.toNatClampNeg y25_6) d_GM_map_55 (fun H locs hP hD hS => ?_)
        obtain ⟨S55, eS55⟩ : ∃ y : MS, y = stM S25 9 y25_9.toNatClampNeg y25_6 := ⟨_, rfl⟩
        rw [← eS55] at hP hD
        have hF := lt_of hF eS55
        refine lv_iload_n hx hb d_GM_map_56 rfl (lv_at hl 7 rfl) ?_
        obtain ⟨k168, hk168, hF⟩ := jn_of hF
        have join168 : ∀ (T1 : MS) (y168_4 : Int32) (y168_6 : Int32) (y168_5 : Int32) (y168_7 : Int32) (H : Heap) (locs : List Loc) (ls : Array Slot), k168 T1 y168_4 y168_6 y168_5 y168_7 = some R → va_P D vwCl (wM G T1) H → va_D A (wM G T1) → va_S A s.heap H locs → lv_has ls 11 [(10, .int x44), (9, .int y25_9), (8, .int y25_8), (7, .int y168_7), (6, .int y168_6), (5, .int y168_5), (4, .int y168_4), (3, .int y25_3), (2, .int x3), (0, .ref (mA G 0)), (1, .int p1)] → W p l e (headSpec ws_GM_map ({ frames := 2, cells := 0, slots := 0, locals := 42 })).room s m ([.ref (mA G 0), .int p1] : List Value).toArray below meth c H locs 0 0 (MQ below (va_Qi (fun (r : Int32) (S' : MS) => (r, S') = R) (wX D G A) A) ([.ref (mA G 0), .int p1] : List Value).toArray s 0 0 A) (F0 m 168 ls []) := by
          intro T168 y168_4 y168_6 y168_5 y168_7 H locs ls hF hP hD hS hl
          rw [hk168] at hF
          refine lv_iload hx hb d_GM_map_168 (lv_at hl 0 rfl) ?_
          refine lv_bipush (v := 58) hx hb d_GM_map_170 (by decide) ?_
          obtain ⟨k191, hk191, hF⟩ := jn_of hF
          have join191 : ∀ (T1 : MS) (y191_7 : Int32) (H : Heap) (locs : List Loc) (ls : Array Slot), k191 T1 y191_7 = some R → va_P D vwCl (wM G T1) H → va_D A (wM G T1) → va_S A s.heap H locs → lv_has ls 11 [(10, .int x44), (9, .int y25_9), (8, .int y25_8), (7, .int y191_7), (6, .int y168_6), (5, .int y168_5), (4, .int y168_4), (3, .int y25_3), (2, .int x3), (0, .ref (mA G 0)), (1, .int p1)] → W p l e (headSpec ws_GM_map ({ frames := 2, cells := 0, slots := 0, locals := 42 })).room s m ([.ref (mA G 0), .int p1] : List Value).toArray below meth c H locs 0 0 (MQ below (va_Qi (fun (r : Int32) (S' : MS) => (r, S') = R) (wX D G A) A) ([.ref (mA G 0), .int p1] : List Value).toArray s 0 0 A) (F0 m 191 ls []) := by
            intro T191 y191_7 H locs ls hF hP hD hS hl
            rw [hk191] at hF
            refine lv_iload hx hb d_GM_map_191 (lv_at hl 0 rfl) ?_
            refine lv_bipush (v := 123) hx hb d_GM_map_193 (by decide) ?_
            obtain ⟨k250, hk250, hF⟩ := jn_of hF
            have join250 : ∀ (T1 : MS) (y250_3 : Int32) (H : Heap) (locs : List Loc) (ls : Array Slot), k250 T1 y250_3 = some R → va_P D vwCl (wM G T1) H → va_D A (wM G T1) → va_S A s.heap H locs → lv_has ls 11 [(10, .int x44), (9, .int y25_9), (8, .int y25_8), (7, .int y191_7), (6, .int y168_6), (5, .int y168_5), (4, .int y168_4), (3, .int y250_3), (2, .int x3), (0, .ref (mA G 0)), (1, .int p1)] → W p l e (headSpec ws_GM_map ({ frames := 2, cells := 0, slots := 0, locals := 42 })).room s m ([.ref (mA G 0), .int p1] : List Value).toArray below meth c H locs 0 0 (MQ below (va_Qi (fun (r : Int32) (S' : MS) => (r, S') = R) (wX D G A) A) ([.ref (mA G 0), .int p1] : List Value).toArray s 0 0 A) (F0 m 250 ls []) := by
              intro T250 y250_3 H locs ls hF hP hD hS hl
              rw [hk250] at hF
              refine lv_iload hx hb d_GM_map_250 (lv_at hl 0 rfl) ?_
              refine lv_bipush (v := 125) hx hb d_GM_map_252 (by decide) ?_
              obtain ⟨k286, hk286, hF⟩ := jn_of hF
              have join286 : ∀ (T1 : MS) (y286_3 : Int32) (H : Heap) (locs : List Loc) (ls : Array Slot), k286 T1 y286_3 = some R → va_P D vwCl (wM G T1) H → va_D A (wM G T1) → va_S A s.heap H locs → lv_has ls 11 [(10, .int x44), (9, .int y25_9), (8, .int y25_8), (7, .int y191_7), (6, .int y168_6), (5, .int y168_5), (4, .int y168_4), (3, .int y286_3), (2, .int x3), (0, .ref (mA G 0)), (1, .int p1)] → W p l e (headSpec ws_GM_map ({ frames := 2, cells := 0, slots := 0, locals := 42 })).room s m ([.ref (mA G 0), .int p1] : List Value).toArray below meth c H locs 0 0 (MQ below (va_Qi (fun (r : Int32) (S' : MS) => (r, S') = R) (wX D G A) A) ([.ref (mA G 0), .int p1] : List Value).toArray s 0 0 A) (F0 m 286 ls []) := by
                intro T286 y286_3 H locs ls hF hP hD hS hl
                rw [hk286] at hF
                refine lv_iload hx hb d_GM_map_286 (lv_at hl 0 rfl) ?_
                refine lv_bipush (v := 59) hx hb d_GM_map_288 (by decide) ?_
                obtain ⟨k312, hk312, hF⟩ := jn_of hF
                have join312 : ∀ (T1 : MS) (z312 : Int32) (H : Heap) (locs : List Loc) (ls : Array Slot), k312 T1 z312 = some R → va_P D vwCl (wM G T1) H → va_D A (wM G T1) → va_S A s.heap H locs → lv_has ls 11 [(10, .int x44), (9, .int y25_9), (8, .int y25_8), (7, .int y191_7), (6, .int y168_6), (5, .int y168_5), (4, .int y168_4), (3, .int y286_3), (2, .int x3), (0, .ref (mA G 0)), (1, .int p1)] → W p l e (headSpec ws_GM_map ({ frames := 2, cells := 0, slots := 0, locals := 42 })).room s m ([.ref (mA G 0), .int p1] : List Value).toArray below meth c H locs 0 0 (MQ below (va_Qi (fun (r : Int32) (S' : MS) => (r, S') = R) (wX D G A) A) ([.ref (mA G 0), .int p1] : List Value).toArray s 0 0 A) (F0 m 312 ls [.int z312]) := by
                  intro T312 z312 H locs ls hF hP hD hS hl
                  rw [hk312] at hF
                  refine lv_istore (lv' := [(8, .int z312), (10, .int x44), (9, .int y25_9), (7, .int y191_7), (6, .int y168_6), (5, .int y168_5), (4, .int y168_4), (3, .int y286_3), (2, .int x3), (0, .ref (mA G 0)), (1, .int p1)]) hx hb d_GM_map_312 hl (by decide) rfl (fun ls hl => ?_)
                  obtain ⟨x314, ex314⟩ : ∃ y : Int32, y = y25_9 + 1 := ⟨_, rfl⟩
                  have hF := lt_of hF ex314
                  refine lv_iinc (v := x314) (lv' := [(9, .int x314), (8, .int z312), (10, .int x44), (7, .int y191_7), (6, .int y168_6), (5, .int y168_5), (4, .int y168_4), (3, .int y286_3), (2, .int x3), (0, .ref (mA G 0)), (1, .int p1)]) hx hb d_GM_map_314 hl (k := 2) rfl (by rw [ex314]; rfl) (by decide) rfl (fun ls hl => ?_)
                  refine lv_goto (tgt := 25) hx hb d_GM_map_317 (by decide) ?_
                  exact ih25 T312 y168_4 y168_6 y168_5 y191_7 y286_3 z312 x314 _ _ ls hF hP hD hS (lv_sub hl [0, 1, 3, 4, 5, 6, 7, 8, 9, 10] rfl)
                obtain ⟨k307, hk307, hF⟩ := jn_of hF
                have join307 : ∀ (T1 : MS) (H : Heap) (locs : List Loc) (ls : Array Slot), k307 T1 = some R → va_P D vwCl (wM G T1) H → va_D A (wM G T1) → va_S A s.heap H locs → lv_has ls 11 [(10, .int x44), (9, .int y25_9), (8, .int y25_8), (7, .int y191_7), (6, .int y168_6), (5, .int y168_5), (4, .int y168_4), (3, .int y286_3), (2, .int x3), (0, .ref (mA G 0)), (1, .int p1)] → W p l e (headSpec ws_GM_map ({ frames := 2, cells := 0, slots := 0, locals := 42 })).room s m ([.ref (mA G 0), .int p1] : List Value).toArray below meth c H locs 0 0 (MQ below (va_Qi (fun (r : Int32) (S' : MS) => (r, S') = R) (wX D G A) A) ([.ref (mA G 0), .int p1] : List Value).toArray s 0 0 A) (F0 m 307 ls []) := by
                  intro T307 H locs ls hF hP hD hS hl
                  rw [hk307] at hF
                  refine lv_iconst (v := 1) hx hb d_GM_map_307 (by decide) ?_
                  refine lv_goto (tgt := 312) hx hb d_GM_map_308 (by decide) ?_
                  exact join312 T307 1 _ _ ls hF hP hD hS (lv_sub hl [0, 1, 2, 3, 4, 5, 6, 7, 8, 9, 10] rfl)
                refine lv_icmp_eq (tgt := 307) hx hb d_GM_map_290 (by decide) (fun c_290 => ?_) (fun c_290 => ?_)
                · have hF := ps_of c_290 hF
                  exact join307 T286 _ _ ls hF hP hD hS (lv_sub hl [0, 1, 2, 3, 4, 5, 6, 7, 8, 9, 10] rfl)
                · have hF := ng_of c_290 hF
                  refine lv_iload hx hb d_GM_map_293 (lv_at hl 0 rfl) ?_
                  refine lv_bipush (v := 123) hx hb d_GM_map_295 (by decide) ?_
                  refine lv_icmp_eq (tgt := 307) hx hb d_GM_map_297 (by decide) (fun c_297 => ?_) (fun c_297 => ?_)
                  · have hF := ps_of c_297 hF
                    exact join307 T286 _ _ ls hF hP hD hS (lv_sub hl [0, 1, 2, 3, 4, 5, 6, 7, 8, 9, 10] rfl)
                  · have hF := ng_of c_297 hF
                    refine lv_iload hx hb d_GM_map_300 (lv_at hl 0 rfl) ?_
                    refine lv_bipush (v := 125) hx hb d_GM_map_302 (by decide) ?_
                    refine lv_icmp_ne (tgt := 311) hx hb d_GM_map_304 (by decide) (fun c_304 => ?_) (fun c_304 => ?_)
                    · have hF := ng_of c_304 hF
                      refine lv_iconst (v := 0) hx hb d_GM_map_311 (by decide) ?_
                      exact join312 T286 0 _ _ ls hF hP hD hS (lv_sub hl [0, 1, 2, 3, 4, 5, 6, 7, 8, 9, 10] rfl)
                    · have hF := ps_of c_304 hF
                      exact join307 T286 _ _ ls hF hP hD hS (lv_sub hl [0, 1, 2, 3, 4, 5, 6, 7, 8, 9, 10] rfl)
              refine lv_icmp_ne (tgt := 286) hx hb d_GM_map_254 (by decide) (fun c_254 => ?_) (fun c_254 => ?_)
              · have hF := ng_of c_254 hF
                exact join286 T250 y250_3 _ _ ls hF hP hD hS (lv_sub hl [0, 1, 2, 3, 4, 5, 6, 7, 8, 9, 10] rfl)
              · have hF := ps_of c_254 hF
                obtain ⟨x257, ex257⟩ : ∃ y : Int32, y = y250_3 + (-1) := ⟨_, rfl⟩
                have hF := lt_of hF ex257
                refine lv_iinc (v := x257) (lv' := [(3, .int x257), (10, .int x44), (9, .int y25_9), (8, .int y25_8), (7, .int y191_7), (6, .int y168_6), (5, .int y168_5), (4, .int y168_4), (2, .int x3), (0, .ref (mA G 0)), (1, .int p1)]) hx hb d_GM_map_257 hl (k := 7) rfl (by rw [ex257]; rfl) (by decide) rfl (fun ls hl => ?_)
                refine lv_aload_n hx hb d_GM_map_260 rfl (lv_at hl 9 rfl) ?_
                refine va_get (D := D) (ci := 6) (v := .ref (mA G 5)) (C := R_GM) (T := T_GM) (N := 30) hx hb hts (fun w h => List.mem_cons_of_mem _ (in_GM w h)) hown hK hP 0 (m_0 G T250) rfl 10 (by decide) (hts _ (List.mem_cons_of_mem _ kw454)) (fun _ h9 => h9) rfl d_GM_map_261 ?_
                refine lv_iload hx hb d_GM_map_264 (lv_at hl 2 rfl) ?_
                refine lv_aload_n hx hb d_GM_map_266 rfl (lv_at hl 9 rfl) ?_
                refine va_get (D := D) (ci := 6) (v := .ref (mA G 4)) (C := R_GM) (T := T_GM) (N := 30) hx hb hts (fun w h => List.mem_cons_of_mem _ (in_GM w h)) hown hK hP 0 (m_0 G T250) rfl 4 (by decide) (hts _ (List.mem_cons_of_mem _ kw448)) (fun _ h9 => h9) rfl d_GM_map_267 ?_
                refine lv_iload_n hx hb d_GM_map_270 rfl (lv_at hl 0 rfl) ?_
                obtain ⟨g271, hF⟩ := gd_of hF
                refine va_iald (D := D) hx hb hK hP 4 0 (m_4 G T250) rfl (ix_in g271) d_GM_map_271 ?_
                refine lv_topi (fun x271 ex271 => ?_)
                have hF := lt_of hF ex271
                obtain ⟨g272, hF⟩ := gd_of hF
                refine va_iastE (D := D) hx hb hK hP hD hS 5 0 (m_5 G T250) rfl (ix_in g272) (msta_5 G T250 y25_9.toNatClampNeg x271) d_GM_map_272 (fun H locs hP hD hS => ?_)
                obtain ⟨S272, eS272⟩ : ∃ y : MS, y = stM T250 5 y25_9.toNatClampNeg x271 := ⟨_, rfl⟩
                rw [← eS272] at hP hD
                have hF := lt_of hF eS272
                refine lv_aload_n hx hb d_GM_map_273 rfl (lv_at hl 9 rfl) ?_
                refine va_get (D := D) (ci := 6) (v := .ref (mA G 5)) (C := R_GM) (T := T_GM) (N := 30) hx hb hts (fun w h => List.mem_cons_of_mem _ (in_GM w h)) hown hK hP 0 (m_0 G S272) rfl 10 (by decide) (hts _ (List.mem_cons_of_mem _ kw454)) (fun _ h9 => h9) rfl d_GM_map_274 ?_
                refine lv_aload_n hx hb d_GM_map_277 rfl (lv_at hl 9 rfl) ?_
                refine va_get (D := D) (ci := 6) (v := .ref (mA G 4)) (C := R_GM) (T := T_GM) (N := 30) hx hb hts (fun w h => List.mem_cons_of_mem _ (in_GM w h)) hown hK hP 0 (m_0 G S272) rfl 4 (by decide) (hts _ (List.mem_cons_of_mem _ kw448)) (fun _ h9 => h9) rfl d_GM_map_278 ?_
                refine lv_iload_n hx hb d_GM_map_281 rfl (lv_at hl 0 rfl) ?_
                obtain ⟨g282, hF⟩ := gd_of hF
                refine va_iald (D := D) hx hb hK hP 4 0 (m_4 G S272) rfl (ix_in g282) d_GM_map_282 ?_
                refine lv_topi (fun x282 ex282 => ?_)
                have hF := lt_of hF ex282
                refine lv_iload hx hb d_GM_map_283 (lv_at hl 2 rfl) ?_
                obtain ⟨g285, hF⟩ := gd_of hF
                refine va_iastE (D := D) hx hb hK hP hD hS 5 0 (m_5 G S272) rfl (ix_in g285) (msta_5 G S272 x282.toNatClampNeg y25_9) d_GM_map_285 (fun H locs hP hD hS => ?_)
                obtain ⟨S285, eS285⟩ : ∃ y : MS, y = stM S272 5 x282.toNatClampNeg y25_9 := ⟨_, rfl⟩
                rw [← eS285] at hP hD
                have hF := lt_of hF eS285
                exact join286 S285 x257 _ _ ls hF hP hD hS (lv_sub hl [1, 2, 3, 4, 5, 6, 7, 0, 8, 9, 10] rfl)
            refine lv_icmp_ne (tgt := 250) hx hb d_GM_map_195 (by decide) (fun c_195 => ?_) (fun c_195 => ?_)
            · have hF := ng_of c_195 hF
              exact join250 T191 y25_3 _ _ ls hF hP hD hS (lv_sub hl [0, 1, 2, 3, 4, 5, 6, 7, 8, 9, 10] rfl)
            · have hF := ps_of c_195 hF
              refine lv_aload_n hx hb d_GM_map_198 rfl (lv_at hl 9 rfl) ?_
              refine va_get (D := D) (ci := 6) (v := .ref (mA G 6)) (C := R_GM) (T := T_GM) (N := 30) hx hb hts (fun w h => List.mem_cons_of_mem _ (in_GM w h)) hown hK hP 0 (m_0 G T191) rfl 11 (by decide) (hts _ (List.mem_cons_of_mem _ kw455)) (fun _ h9 => h9) rfl d_GM_map_199 ?_
              refine lv_iload hx hb d_GM_map_202 (lv_at hl 1 rfl) ?_
              refine lv_iload hx hb d_GM_map_204 (lv_at hl 3 rfl) ?_
              obtain ⟨g206, hF⟩ := gd_of hF
              refine va_iastE (D := D) hx hb hK hP hD hS 6 0 (m_6 G T191) rfl (ix_in g206) (msta_6 G T191 y25_9.toNatClampNeg y191_7) d_GM_map_206 (fun H locs hP hD hS => ?_)
              obtain ⟨S206, eS206⟩ : ∃ y : MS, y = stM T191 6 y25_9.toNatClampNeg y191_7 := ⟨_, rfl⟩
              rw [← eS206] at hP hD
              have hF := lt_of hF eS206
              refine lv_aload_n hx hb d_GM_map_207 rfl (lv_at hl 9 rfl) ?_
              refine va_get (D := D) (ci := 6) (v := .ref (mA G 7)) (C := R_GM) (T := T_GM) (N := 30) hx hb hts (fun w h => List.mem_cons_of_mem _ (in_GM w h)) hown hK hP 0 (m_0 G S206) rfl 12 (by decide) (hts _ (List.mem_cons_of_mem _ kw456)) (fun _ h9 => h9) rfl d_GM_map_208 ?_
              refine lv_iload hx hb d_GM_map_211 (lv_at hl 1 rfl) ?_
              refine lv_aload_n hx hb d_GM_map_213 rfl (lv_at hl 9 rfl) ?_
              refine va_get (D := D) (ci := 6) (v := .ref (mA G 1)) (C := R_GM) (T := T_GM) (N := 30) hx hb hts (fun w h => List.mem_cons_of_mem _ (in_GM w h)) hown hK hP 0 (m_0 G S206) rfl 0 (by decide) (hts _ (List.mem_cons_of_mem _ kw444)) (fun _ h9 => h9) rfl d_GM_map_214 ?_
              refine lv_iload hx hb d_GM_map_217 (lv_at hl 1 rfl) ?_
              refine lv_iconst (v := 1) hx hb d_GM_map_219 (by decide) ?_
              refine lv_isub hx hb d_GM_map_220 ?_
              refine lv_topi (fun x220 ex220 => ?_)
              have hF := lt_of hF ex220
              obtain ⟨g221, hF⟩ := gd_of hF
              refine va_iald (D := D) hx hb hK hP 1 0 (m_1 G S206) rfl (ix_in g221) d_GM_map_221 ?_
              refine lv_topi (fun x221 ex221 => ?_)
              have hF := lt_of hF ex221
              refine lv_bipush (v := 58) hx hb d_GM_map_222 (by decide) ?_
              obtain ⟨k238, hk238, hF⟩ := jn_of hF
              have join238 : ∀ (T1 : MS) (z238 : Int32) (H : Heap) (locs : List Loc) (ls : Array Slot), k238 T1 z238 = some R → va_P D vwCl (wM G T1) H → va_D A (wM G T1) → va_S A s.heap H locs → lv_has ls 11 [(10, .int x44), (9, .int y25_9), (8, .int y25_8), (7, .int y191_7), (6, .int y168_6), (5, .int y168_5), (4, .int y168_4), (3, .int y25_3), (2, .int x3), (0, .ref (mA G 0)), (1, .int p1)] → W p l e (headSpec ws_GM_map ({ frames := 2, cells := 0, slots := 0, locals := 42 })).room s m ([.ref (mA G 0), .int p1] : List Value).toArray below meth c H locs 0 0 (MQ below (va_Qi (fun (r : Int32) (S' : MS) => (r, S') = R) (wX D G A) A) ([.ref (mA G 0), .int p1] : List Value).toArray s 0 0 A) (F0 m 238 ls [.int z238, .int y25_9, .ref (mA G 7)]) := by
                intro T238 z238 H locs ls hF hP hD hS hl
                rw [hk238] at hF
                obtain ⟨g238, hF⟩ := gd_of hF
                refine va_iastE (D := D) hx hb hK hP hD hS 7 0 (m_7 G T238) rfl (ix_in g238) (msta_7 G T238 y25_9.toNatClampNeg z238) d_GM_map_238 (fun H locs hP hD hS => ?_)
                obtain ⟨S238, eS238⟩ : ∃ y : MS, y = stM T238 7 y25_9.toNatClampNeg z238 := ⟨_, rfl⟩
                rw [← eS238] at hP hD
                have hF := lt_of hF eS238
                refine lv_aload_n hx hb d_GM_map_239 rfl (lv_at hl 9 rfl) ?_
                refine va_get (D := D) (ci := 6) (v := .ref (mA G 4)) (C := R_GM) (T := T_GM) (N := 30) hx hb hts (fun w h => List.mem_cons_of_mem _ (in_GM w h)) hown hK hP 0 (m_0 G S238) rfl 4 (by decide) (hts _ (List.mem_cons_of_mem _ kw448)) (fun _ h9 => h9) rfl d_GM_map_240 ?_
                refine lv_iload_n hx hb d_GM_map_243 rfl (lv_at hl 7 rfl) ?_
                refine lv_iload hx hb d_GM_map_244 (lv_at hl 1 rfl) ?_
                obtain ⟨g246, hF⟩ := gd_of hF
                refine va_iastE (D := D) hx hb hK hP hD hS 4 0 (m_4 G S238) rfl (ix_in g246) (msta_4 G S238 y25_3.toNatClampNeg y25_9) d_GM_map_246 (fun H locs hP hD hS => ?_)
                obtain ⟨S246, eS246⟩ : ∃ y : MS, y = stM S238 4 y25_3.toNatClampNeg y25_9 := ⟨_, rfl⟩
                rw [← eS246] at hP hD
                have hF := lt_of hF eS246
                obtain ⟨x247, ex247⟩ : ∃ y : Int32, y = y25_3 + 1 := ⟨_, rfl⟩
                have hF := lt_of hF ex247
                refine lv_iinc (v := x247) (lv' := [(3, .int x247), (10, .int x44), (9, .int y25_9), (8, .int y25_8), (7, .int y191_7), (6, .int y168_6), (5, .int y168_5), (4, .int y168_4), (2, .int x3), (0, .ref (mA G 0)), (1, .int p1)]) hx hb d_GM_map_247 hl (k := 7) rfl (by rw [ex247]; rfl) (by decide) rfl (fun ls hl => ?_)
                exact join250 S246 x247 _ _ ls hF hP hD hS (lv_sub hl [1, 2, 3, 4, 5, 6, 7, 0, 8, 9, 10] rfl)
              refine lv_icmp_ne (tgt := 231) hx hb d_GM_map_224 (by decide) (fun c_224 => ?_) (fun c_224 => ?_)
              · have hF := ng_of c_224 hF
                refine lv_aload_n hx hb d_GM_map_231 rfl (lv_at hl 9 rfl) ?_
                refine va_get (D := D) (ci := 6) (v := .ref (mA G 7)) (C := R_GM) (T := T_GM) (N := 30) hx hb hts (fun w h => List.mem_cons_of_mem _ (in_GM w h)) hown hK hP 0 (m_0 G S206) rfl 12 (by decide) (hts _ (List.mem_cons_of_mem _ kw456)) (fun _ h9 => h9) rfl d_GM_map_232 ?_
                refine lv_iload hx hb d_GM_map_235 (lv_at hl 3 rfl) ?_
                obtain ⟨g237, hF⟩ := gd_of hF
                refine va_iald (D := D) hx hb hK hP 7 0 (m_7 G S206) rfl (ix_in g237) d_GM_map_237 ?_
                refine lv_topi (fun x237 ex237 => ?_)
                have hF := lt_of hF ex237
                exact join238 S206 x237 _ _ ls hF hP hD hS (lv_sub hl [0, 1, 2, 3, 4, 5, 6, 7, 8, 9, 10] rfl)
              · have hF := ps_of c_224 hF
                refine lv_iconst (v := 5) hx hb d_GM_map_227 (by decide) ?_
                refine lv_goto (tgt := 238) hx hb d_GM_map_228 (by decide) ?_
                exact join238 S206 5 _ _ ls hF hP hD hS (lv_sub hl [0, 1, 2, 3, 4, 5, 6, 7, 8, 9, 10] rfl)
          refine lv_icmp_ne (tgt := 191) hx hb d_GM_map_172 (by decide) (fun c_172 => ?_) (fun c_172 => ?_)
          · have hF := ng_of c_172 hF
            exact join191 T168 y168_7 _ _ ls hF hP hD hS (lv_sub hl [0, 1, 2, 3, 4, 5, 6, 7, 8, 9, 10] rfl)
          · have hF := ps_of c_172 hF
            refine lv_aload_n hx hb d_GM_map_175 rfl (lv_at hl 9 rfl) ?_
            refine va_get (D := D) (ci := 6) (v := .ref (mA G 6)) (C := R_GM) (T := T_GM) (N := 30) hx hb hts (fun w h => List.mem_cons_of_mem _ (in_GM w h)) hown hK hP 0 (m_0 G T168) rfl 11 (by decide) (hts _ (List.mem_cons_of_mem _ kw455)) (fun _ h9 => h9) rfl d_GM_map_176 ?_
            refine lv_aload_n hx hb d_GM_map_179 rfl (lv_at hl 9 rfl) ?_
            refine va_get (D := D) (ci := 6) (v := .ref (mA G 5)) (C := R_GM) (T := T_GM) (N := 30) hx hb hts (fun w h => List.mem_cons_of_mem _ (in_GM w h)) hown hK hP 0 (m_0 G T168) rfl 10 (by decide) (hts _ (List.mem_cons_of_mem _ kw454)) (fun _ h9 => h9) rfl d_GM_map_180 ?_
            refine lv_iload hx hb d_GM_map_183 (lv_at hl 1 rfl) ?_
            refine lv_iconst (v := 1) hx hb d_GM_map_185 (by decide) ?_
            refine lv_isub hx hb d_GM_map_186 ?_
            refine lv_topi (fun x186 ex186 => ?_)
            have hF := lt_of hF ex186
            obtain ⟨g187, hF⟩ := gd_of hF
            refine va_iald (D := D) hx hb hK hP 5 0 (m_5 G T168) rfl (ix_in g187) d_GM_map_187 ?_
            refine lv_topi (fun x187 ex187 => ?_)
            have hF := lt_of hF ex187
            obtain ⟨g188, hF⟩ := gd_of hF
            refine va_iald (D := D) hx hb hK hP 6 0 (m_6 G T168) rfl (ix_in g188) d_GM_map_188 ?_
            refine lv_topi (fun x188 ex188 => ?_)
            have hF := lt_of hF ex188
            refine lv_istore (lv' := [(7, .int x188), (10, .int x44), (9, .int y25_9), (8, .int y25_8), (6, .int y168_6), (5, .int y168_5), (4, .int y168_4), (3, .int y25_3), (2, .int x3), (0, .ref (mA G 0)), (1, .int p1)]) hx hb d_GM_map_189 hl (by decide) rfl (fun ls hl => ?_)
            exact join191 T168 x188 _ _ ls hF hP hD hS (lv_sub hl [1, 2, 3, 0, 4, 5, 6, 7, 8, 9, 10] rfl)
        obtain ⟨k93, hk93, hF⟩ := jn_of hF
        have join93 : ∀ (T1 : MS) (y93_4 : Int32) (y93_6 : Int32) (y93_5 : Int32) (y93_7 : Int32) (H : Heap) (locs : List Loc) (ls : Array Slot), k93 T1 y93_4 y93_6 y93_5 y93_7 = some R → va_P D vwCl (wM G T1) H → va_D A (wM G T1) → va_S A s.heap H locs → lv_has ls 11 [(10, .int x44), (9, .int y25_9), (8, .int y25_8), (7, .int y93_7), (6, .int y93_6), (5, .int y93_5), (4, .int y93_4), (3, .int y25_3), (2, .int x3), (0, .ref (mA G 0)), (1, .int p1)] → W p l e (headSpec ws_GM_map ({ frames := 2, cells := 0, slots := 0, locals := 42 })).room s m ([.ref (mA G 0), .int p1] : List Value).toArray below meth c H locs 0 0 (MQ below (va_Qi (fun (r : Int32) (S' : MS) => (r, S') = R) (wX D G A) A) ([.ref (mA G 0), .int p1] : List Value).toArray s 0 0 A) (F0 m 93 ls []) := by
          intro T93 y93_4 y93_6 y93_5 y93_7 H locs ls hF hP hD hS hl
          rw [hk93] at hF
          refine lv_iload hx hb d_GM_map_93 (lv_at hl 2 rfl) ?_
          refine lv_if_eq (tgt := 168) hx hb d_GM_map_95 (by decide) (fun c_95 => ?_) (fun c_95 => ?_)
          · have hF := ps_of c_95 hF
            exact join168 T93 y93_4 y93_6 y93_5 y93_7 _ _ ls hF hP hD hS (lv_sub hl [0, 1, 2, 3, 4, 5, 6, 7, 8, 9, 10] rfl)
          · have hF := ng_of c_95 hF
            refine lv_iload hx hb d_GM_map_98 (lv_at hl 0 rfl) ?_
            refine lv_bipush (v := 125) hx hb d_GM_map_100 (by decide) ?_
            refine lv_icmp_eq (tgt := 168) hx hb d_GM_map_102 (by decide) (fun c_102 => ?_) (fun c_102 => ?_)
            · have hF := ps_of c_102 hF
              exact join168 T93 y93_4 y93_6 y93_5 y93_7 _ _ ls hF hP hD hS (lv_sub hl [0, 1, 2, 3, 4, 5, 6, 7, 8, 9, 10] rfl)
            · have hF := ng_of c_102 hF
              refine lv_iload hx hb d_GM_map_105 (lv_at hl 0 rfl) ?_
              refine lv_bipush (v := 58) hx hb d_GM_map_107 (by decide) ?_
              refine lv_icmp_eq (tgt := 168) hx hb d_GM_map_109 (by decide) (fun c_109 => ?_) (fun c_109 => ?_)
              · have hF := ps_of c_109 hF
                exact join168 T93 y93_4 y93_6 y93_5 y93_7 _ _ ls hF hP hD hS (lv_sub hl [0, 1, 2, 3, 4, 5, 6, 7, 8, 9, 10] rfl)
              · have hF := ng_of c_109 hF
                obtain ⟨x112, ex112⟩ : ∃ y : Int32, y = y93_5 + 1 := ⟨_, rfl⟩
                have hF := lt_of hF ex112
                refine lv_iinc (v := x112) (lv' := [(5, .int x112), (10, .int x44), (9, .int y25_9), (8, .int y25_8), (7, .int y93_7), (6, .int y93_6), (4, .int y93_4), (3, .int y25_3), (2, .int x3), (0, .ref (mA G 0)), (1, .int p1)]) hx hb d_GM_map_112 hl (k := 5) rfl (by rw [ex112]; rfl) (by decide) rfl (fun ls hl => ?_)
                refine lv_aload_n hx hb d_GM_map_115 rfl (lv_at hl 9 rfl) ?_
                refine va_get (D := D) (ci := 6) (v := .ref (mA G 8)) (C := R_GM) (T := T_GM) (N := 30) hx hb hts (fun w h => List.mem_cons_of_mem _ (in_GM w h)) hown hK hP 0 (m_0 G T93) rfl 13 (by decide) (hts _ (List.mem_cons_of_mem _ kw457)) (fun _ h9 => h9) rfl d_GM_map_116 ?_
                refine lv_iload hx hb d_GM_map_119 (lv_at hl 2 rfl) ?_
                refine lv_iload hx hb d_GM_map_121 (lv_at hl 0 rfl) ?_
                obtain ⟨g123, hF⟩ := gd_of hF
                refine va_iastE (D := D) hx hb hK hP hD hS 8 0 (m_8 G T93) rfl (ix_in g123) (msta_8 G T93 y25_9.toNatClampNeg x112) d_GM_map_123 (fun H locs hP hD hS => ?_)
                obtain ⟨S123, eS123⟩ : ∃ y : MS, y = stM T93 8 y25_9.toNatClampNeg x112 := ⟨_, rfl⟩
                rw [← eS123] at hP hD
                have hF := lt_of hF eS123
                refine lv_aload_n hx hb d_GM_map_124 rfl (lv_at hl 9 rfl) ?_
                refine va_get (D := D) (ci := 6) (v := .ref (mA G 9)) (C := R_GM) (T := T_GM) (N := 30) hx hb hts (fun w h => List.mem_cons_of_mem _ (in_GM w h)) hown hK hP 0 (m_0 G S123) rfl 14 (by decide) (hts _ (List.mem_cons_of_mem _ kw458)) (fun _ h9 => h9) rfl d_GM_map_125 ?_
                refine lv_iload hx hb d_GM_map_128 (lv_at hl 2 rfl) ?_
                refine lv_iload hx hb d_GM_map_130 (lv_at hl 5 rfl) ?_
                obtain ⟨g132, hF⟩ := gd_of hF
                refine va_iastE (D := D) hx hb hK hP hD hS 9 0 (m_9 G S123) rfl (ix_in g132) (msta_9 G S123 y25_9.toNatClampNeg y93_6) d_GM_map_132 (fun H locs hP hD hS => ?_)
                obtain ⟨S132, eS132⟩ : ∃ y : MS, y = stM S123 9 y25_9.toNatClampNeg y93_6 := ⟨_, rfl⟩
                rw [← eS132] at hP hD
                have hF := lt_of hF eS132
                refine lv_iload hx hb d_GM_map_133 (lv_at hl 2 rfl) ?_
                refine lv_istore (lv' := [(7, .int y25_9), (5, .int x112), (10, .int x44), (9, .int y25_9), (8, .int y25_8), (6, .int y93_6), (4, .int y93_4), (3, .int y25_3), (2, .int x3), (0, .ref (mA G 0)), (1, .int p1)]) hx hb d_GM_map_135 hl (by decide) rfl (fun ls hl => ?_)
                refine lv_aload_n hx hb d_GM_map_137 rfl (lv_at hl 9 rfl) ?_
                refine va_get (D := D) (ci := 6) (v := .ref (mA G 7)) (C := R_GM) (T := T_GM) (N := 30) hx hb hts (fun w h => List.mem_cons_of_mem _ (in_GM w h)) hown hK hP 0 (m_0 G S132) rfl 12 (by decide) (hts _ (List.mem_cons_of_mem _ kw456)) (fun _ h9 => h9) rfl d_GM_map_138 ?_
                refine lv_iload hx hb d_GM_map_141 (lv_at hl 3 rfl) ?_
                refine lv_iload hx hb d_GM_map_143 (lv_at hl 2 rfl) ?_
                refine lv_bipush (v := 63) hx hb d_GM_map_145 (by decide) ?_
                obtain ⟨k167, hk167, hF⟩ := jn_of hF
                have join167 : ∀ (T1 : MS) (z167 : Int32) (H : Heap) (locs : List Loc) (ls : Array Slot), k167 T1 z167 = some R → va_P D vwCl (wM G T1) H → va_D A (wM G T1) → va_S A s.heap H locs → lv_has ls 11 [(7, .int y25_9), (5, .int x112), (10, .int x44), (9, .int y25_9), (8, .int y25_8), (6, .int y93_6), (4, .int y93_4), (3, .int y25_3), (2, .int x3), (0, .ref (mA G 0)), (1, .int p1)] → W p l e (headSpec ws_GM_map ({ frames := 2, cells := 0, slots := 0, locals := 42 })).room s m ([.ref (mA G 0), .int p1] : List Value).toArray below meth c H locs 0 0 (MQ below (va_Qi (fun (r : Int32) (S' : MS) => (r, S') = R) (wX D G A) A) ([.ref (mA G 0), .int p1] : List Value).toArray s 0 0 A) (F0 m 167 ls [.int z167, .int y25_9, .ref (mA G 7)]) := by
                  intro T167 z167 H locs ls hF hP hD hS hl
                  rw [hk167] at hF
                  obtain ⟨g167, hF⟩ := gd_of hF
                  refine va_iastE (D := D) hx hb hK hP hD hS 7 0 (m_7 G T167) rfl (ix_in g167) (msta_7 G T167 y25_9.toNatClampNeg z167) d_GM_map_167 (fun H locs hP hD hS => ?_)
                  obtain ⟨S167, eS167⟩ : ∃ y : MS, y = stM T167 7 y25_9.toNatClampNeg z167 := ⟨_, rfl⟩
                  rw [← eS167] at hP hD
                  have hF := lt_of hF eS167
                  exact join168 S167 y93_4 y93_6 x112 y25_9 _ _ ls hF hP hD hS (lv_sub hl [2, 3, 4, 0, 5, 1, 6, 7, 8, 9, 10] rfl)
                refine lv_icmp_ne (tgt := 154) hx hb d_GM_map_147 (by decide) (fun c_147 => ?_) (fun c_147 => ?_)
                · have hF := ng_of c_147 hF
                  refine lv_iload hx hb d_GM_map_154 (lv_at hl 2 rfl) ?_
                  refine lv_bipush (v := 64) hx hb d_GM_map_156 (by decide) ?_
                  refine lv_icmp_ne (tgt := 166) hx hb d_GM_map_158 (by decide) (fun c_158 => ?_) (fun c_158 => ?_)
                  · have hF := ng_of c_158 hF
                    refine lv_iconst (v := 0) hx hb d_GM_map_166 (by decide) ?_
                    exact join167 S132 0 _ _ ls hF hP hD hS (lv_sub hl [0, 1, 2, 3, 4, 5, 6, 7, 8, 9, 10] rfl)
                  · have hF := ps_of c_158 hF
                    refine lv_bipush (v := 6) hx hb d_GM_map_161 (by decide) ?_
                    refine lv_goto (tgt := 167) hx hb d_GM_map_163 (by decide) ?_
                    exact join167 S132 6 _ _ ls hF hP hD hS (lv_sub hl [0, 1, 2, 3, 4, 5, 6, 7, 8, 9, 10] rfl)
                · have hF := ps_of c_147 hF
                  refine lv_iconst (v := 4) hx hb d_GM_map_150 (by decide) ?_
                  refine lv_goto (tgt := 167) hx hb d_GM_map_151 (by decide) ?_
                  exact join167 S132 4 _ _ ls hF hP hD hS (lv_sub hl [0, 1, 2, 3, 4, 5, 6, 7, 8, 9, 10] rfl)
        refine lv_if_ne (tgt := 93) hx hb d_GM_map_57 (by decide) (fun c_57 => ?_) (fun c_57 => ?_)
        · have hF := ng_of c_57 hF
          exact join93 S55 y25_4 y25_6 y25_5 y25_7 _ _ ls hF hP hD hS (lv_sub hl [0, 1, 2, 3, 4, 5, 6, 7, 8, 9, 10] rfl)
        · have hF := ps_of c_57 hF
          refine lv_iload hx hb d_GM_map_60 (lv_at hl 0 rfl) ?_
          refine vp_callSi (W.runS (As := [.int x44]) (rest := []) ⟨hx, hb, hml, hown, hts⟩ (c_GM_isLetter l x44) (cwS 1 hts (gS kw527 kw528 kw7 kw529) rfl rfl rfl (by decide +kernel) ⟨by show (1 : Nat) + 1 ≤ 2; omega, by show 8 + (1 + 11) + 22 ≤ 42; omega⟩) ⟨blindNM, fun U hU hW => ⟨rfl, trivial⟩⟩ rfl rfl hl.1 rfl (lv_room (Nat.le_of_ble_eq_true rfl)) d_GM_map_62 ⟨Nat.zero_le _, Nat.zero_le _⟩) (fun x62 ex62 => ?_)
          obtain ⟨ex62, bx62⟩ := ex62
          have hF := lt_of hF ex62
          refine lv_if_eq (tgt := 93) hx hb d_GM_map_65 (by decide) (fun c_65 => ?_) (fun c_65 => ?_)
          · have hF := ps_of c_65 hF
            exact join93 S55 y25_4 y25_6 y25_5 y25_7 _ _ ls hF hP hD hS (lv_sub hl [0, 1, 2, 3, 4, 5, 6, 7, 8, 9, 10] rfl)
          · have hF := ng_of c_65 hF
            obtain ⟨x68, ex68⟩ : ∃ y : Int32, y = y25_4 + 1 := ⟨_, rfl⟩
            have hF := lt_of hF ex68
            refine lv_iinc (v := x68) (lv' := [(4, .int x68), (10, .int x44), (9, .int y25_9), (8, .int y25_8), (7, .int y25_7), (6, .int y25_6), (5, .int y25_5), (3, .int y25_3), (2, .int x3), (0, .ref (mA G 0)), (1, .int p1)]) hx hb d_GM_map_68 hl (k := 6) rfl (by rw [ex68]; rfl) (by decide) rfl (fun ls hl => ?_)
            refine lv_iload hx hb d_GM_map_71 (lv_at hl 1 rfl) ?_
            refine lv_istore (lv' := [(6, .int x44), (4, .int x68), (10, .int x44), (9, .int y25_9), (8, .int y25_8), (7, .int y25_7), (5, .int y25_5), (3, .int y25_3), (2, .int x3), (0, .ref (mA G 0)), (1, .int p1)]) hx hb d_GM_map_73 hl (by decide) rfl (fun ls hl => ?_)
            refine lv_iconst (v := 0) hx hb d_GM_map_75 (by decide) ?_
            refine lv_istore (lv' := [(5, .int 0), (6, .int x44), (4, .int x68), (10, .int x44), (9, .int y25_9), (8, .int y25_8), (7, .int y25_7), (3, .int y25_3), (2, .int x3), (0, .ref (mA G 0)), (1, .int p1)]) hx hb d_GM_map_76 hl (by decide) rfl (fun ls hl => ?_)
            refine lv_iload hx hb d_GM_map_78 (lv_at hl 4 rfl) ?_
            refine lv_istore (lv' := [(7, .int y25_9), (5, .int 0), (6, .int x44), (4, .int x68), (10, .int x44), (9, .int y25_9), (8, .int y25_8), (3, .int y25_3), (2, .int x3), (0, .ref (mA G 0)), (1, .int p1)]) hx hb d_GM_map_80 hl (by decide) rfl (fun ls hl => ?_)
            refine lv_aload_n hx hb d_GM_map_82 rfl (lv_at hl 9 rfl) ?_
            refine va_get (D := D) (ci := 6) (v := .ref (mA G 7)) (C := R_GM) (T := T_GM) (N := 30) hx hb hts (fun w h => List.mem_cons_of_mem _ (in_GM w h)) hown hK hP 0 (m_0 G S55) rfl 12 (by decide) (hts _ (List.mem_cons_of_mem _ kw456)) (fun _ h9 => h9) rfl d_GM_map_83 ?_
            refine lv_iload hx hb d_GM_map_86 (lv_at hl 5 rfl) ?_
            refine lv_iconst (v := 3) hx hb d_GM_map_88 (by decide) ?_
            obtain ⟨g89, hF⟩ := gd_of hF
            refine va_iastE (D := D) hx hb hK hP hD hS 7 0 (m_7 G S55) rfl (ix_in g89) (msta_7 G S55 y25_9.toNatClampNeg 3) d_GM_map_89 (fun H locs hP hD hS => ?_)
            obtain ⟨S89, eS89⟩ : ∃ y : MS, y = stM S55 7 y25_9.toNatClampNeg 3 := ⟨_, rfl⟩
            rw [← eS89] at hP hD
            have hF := lt_of hF eS89
            refine lv_goto (tgt := 168) hx hb d_GM_map_90 (by decide) ?_
            exact join168 S89 x68 x44 0 y25_9 _ _ ls hF hP hD hS (lv_sub hl [4, 5, 6, 0, 2, 1, 3, 7, 8, 9, 10] rfl)
  refine loop25 _ ?_ (fz 2000) S 0 0 0 0 0 0 x3 _ _ ls hF hP hD hS hl
  intro S320 y320_4 y320_6 y320_5 y320_7 y320_3 y320_8 y320_9 H locs ls hF hP hD hS hl
  refine lv_iload hx hb d_GM_map_320 (lv_at hl 5 rfl) ?_
  exact W.iret (v := y320_4) hx hb hr (fun t ht hW => ⟨⟨y320_4, S320, rfl, Option.some.inj hF, by rw [ht]; exact hP, hD⟩, hS.F ht⟩) hS.2.2 d_GM_map_322
set_option maxHeartbeats 4000000 in
set_option maxRecDepth 100000 in
theorem c_GM_twice (l : Launch) (D : va_G) (G : MP) (S : MS) (sz : Nat) (p1 : Int32) (R : (Int32 × MS)) (hF : f_GM_twice S p1 = some R) : Met l y_GM_twice ws_GM_twice ({ frames := 2, cells := 0, slots := 0, locals := 42 }) (va_Pc [.ref (mA G 0), .int p1] (mPre D G S sz)) (va_Qi (fun (r : Int32) (S' : MS) => (r, S') = R ∧ bl r) (wX D G (va_A (wM G S) sz)) (va_A (wM G S) sz)) 0 0 (va_A (wM G S) sz) := by
  refine Met.ofW (cc := b_GM_twice) (maxL := 6) (ret := (some .boolean)) (by decide) rfl ?_
  intro p e s m args below meth c s₁ B hml hv
  obtain ⟨rfl, hsz, hP, hK, hD0⟩ := hv
  have hx := B.exec
  have hb := B.bytes
  have hr := B.returns
  have hts := atoms_spec (ws := ws_GM_twice) B.pre
  have hown : s.vm.findClass R_GM = some m.cls := findClass_of_methodNamed B.named
  have hlocks := B.notSynchronized
  subst hsz
  have hD := hD0.self (sz := s.heap.size)
  generalize hAe : va_A (wM G S) s.heap.size = A at hD ⊢
  have hA : ∀ q : Nat, s.heap.size ≤ q → A q := fun q h => by rw [← hAe]; exact Or.inr h
  have hS : va_S A s.heap s.heap [] := va_S.rf
  have hl := lv_entry ([.ref (mA G 0), .int p1]) (n := 6) (Nat.le_of_ble_eq_true rfl)
  rw [lg_entry_eq]
  generalize (lg_sl ([.ref (mA G 0), .int p1]) ++ List.replicate (6 - (lg_sl ([.ref (mA G 0), .int p1])).length) Slot.unset).toArray = ls at hl ⊢
  have hl : lv_has ls 6 [(0, .ref (mA G 0)), (1, .int p1)] := hl
  unfold f_GM_twice at hF
  refine lv_iconst (v := 0) hx hb d_GM_twice_0 (by decide) ?_
  refine lv_istore_n (lv' := [(2, .int 0), (0, .ref (mA G 0)), (1, .int p1)]) hx hb d_GM_twice_1 rfl hl (by decide) rfl (fun ls hl => ?_)
  refine lv_iconst (v := 0) hx hb d_GM_twice_2 (by decide) ?_
  refine lv_istore_n (lv' := [(3, .int 0), (2, .int 0), (0, .ref (mA G 0)), (1, .int p1)]) hx hb d_GM_twice_3 rfl hl (by decide) rfl (fun ls hl => ?_)
  refine lv_bipush (v := 60) hx hb d_GM_twice_4 (by decide) ?_
  refine lv_iload_n hx hb d_GM_twice_6 rfl (lv_at hl 3 rfl) ?_
  refine lv_imul hx hb d_GM_twice_7 ?_
  refine lv_topi (fun x7 ex7 => ?_)
  have hF := lt_of hF ex7
  refine lv_istore (lv' := [(4, .int x7), (3, .int 0), (2, .int 0), (0, .ref (mA G 0)), (1, .int p1)]) hx hb d_GM_twice_8 hl (by decide) rfl (fun ls hl => ?_)
  have loop10 : ∀ (K10 : MS → Int32 → Int32 → Int32 → Option (Int32 × MS)) (hexit : ∀ (S1 : MS) (y10_2 : Int32) (y10_3 : Int32) (y10_4 : Int32) (H : Heap) (locs : List Loc) (ls : Array Slot), K10 S1 y10_2 y10_3 y10_4 = some R → va_P D vwCl (wM G S1) H → va_D A (wM G S1) → va_S A s.heap H locs → lv_has ls 6 [(4, .int y10_4), (3, .int y10_3), (2, .int y10_2), (0, .ref (mA G 0)), (1, .int p1)] → W p l e (headSpec ws_GM_twice ({ frames := 2, cells := 0, slots := 0, locals := 42 })).room s m ([.ref (mA G 0), .int p1] : List Value).toArray below meth c H locs 0 0 (MQ below (va_Qi (fun (r : Int32) (S' : MS) => (r, S') = R ∧ bl r) (wX D G A) A) ([.ref (mA G 0), .int p1] : List Value).toArray s 0 0 A) (F0 m 98 ls [])) (n : Nat) (S1 : MS) (y10_2 : Int32) (y10_3 : Int32) (y10_4 : Int32) (H : Heap) (locs : List Loc) (ls : Array Slot), q_GM_twice_10 n S1 p1 y10_2 y10_3 y10_4 K10 = some R → va_P D vwCl (wM G S1) H → va_D A (wM G S1) → va_S A s.heap H locs → lv_has ls 6 [(4, .int y10_4), (3, .int y10_3), (2, .int y10_2), (0, .ref (mA G 0)), (1, .int p1)] → W p l e (headSpec ws_GM_twice ({ frames := 2, cells := 0, slots := 0, locals := 42 })).room s m ([.ref (mA G 0), .int p1] : List Value).toArray below meth c H locs 0 0 (MQ below (va_Qi (fun (r : Int32) (S' : MS) => (r, S') = R ∧ bl r) (wX D G A) A) ([.ref (mA G 0), .int p1] : List Value).toArray s 0 0 A) (F0 m 10 ls []) := by
    intro K10 hexit10 n
    induction n with
    | zero => intro S1 y10_2 y10_3 y10_4 H locs ls hF; exact nomatch (show (none : Option (Int32 × MS)) = some R from hF)
    | succ n ih10 =>
      intro S10 y10_2 y10_3 y10_4 H locs ls hF hP hD hS hl
      rw [q_GM_twice_10] at hF
      refine lv_iload hx hb d_GM_twice_10 (lv_at hl 0 rfl) ?_
      refine lv_bipush (v := 60) hx hb d_GM_twice_12 (by decide) ?_
      refine lv_iload_n hx hb d_GM_twice_14 rfl (lv_at hl 4 rfl) ?_
      refine lv_imul hx hb d_GM_twice_15 ?_
      refine lv_topi (fun x15 ex15 => ?_)
      have hF := lt_of hF ex15
      refine lv_aload_n hx hb d_GM_twice_16 rfl (lv_at hl 3 rfl) ?_
      refine va_get (D := D) (ci := 6) (v := .ref (mA G 2)) (C := R_GM) (T := T_GM) (N := 30) hx hb hts (fun w h => List.mem_cons_of_mem _ (in_GM w h)) hown hK hP 0 (m_0 G S10) rfl 1 (by decide) (hts _ (List.mem_cons_of_mem _ kw445)) (fun _ h9 => h9) rfl d_GM_twice_17 ?_
      refine lv_iload_n hx hb d_GM_twice_20 rfl (lv_at hl 4 rfl) ?_
      obtain ⟨g21, hF⟩ := gd_of hF
      refine va_iald (D := D) hx hb hK hP 2 0 (m_2 G S10) rfl (ix_in g21) d_GM_twice_21 ?_
      refine lv_topi (fun x21 ex21 => ?_)
      have hF := lt_of hF ex21
      refine lv_iadd hx hb d_GM_twice_22 ?_
      refine lv_topi (fun x22 ex22 => ?_)
      have hF := lt_of hF ex22
      refine lv_icmp_ge (tgt := 98) hx hb d_GM_twice_23 (by decide) (fun c_23 => ?_) (fun c_23 => ?_)
      · have hF := ps_of c_23 hF
        exact hexit10 S10 y10_2 y10_3 y10_4 _ _ ls hF hP hD hS (lv_sub hl [0, 1, 2, 3, 4] rfl)
      · have hF := ng_of c_23 hF
        refine lv_aload_n hx hb d_GM_twice_26 rfl (lv_at hl 3 rfl) ?_
        refine va_get (D := D) (ci := 6) (v := .ref (mA G 1)) (C := R_GM) (T := T_GM) (N := 30) hx hb hts (fun w h => List.mem_cons_of_mem _ (in_GM w h)) hown hK hP 0 (m_0 G S10) rfl 0 (by decide) (hts _ (List.mem_cons_of_mem _ kw444)) (fun _ h9 => h9) rfl d_GM_twice_27 ?_
        refine lv_iload hx hb d_GM_twice_30 (lv_at hl 0 rfl) ?_
        obtain ⟨g32, hF⟩ := gd_of hF
        refine va_iald (D := D) hx hb hK hP 1 0 (m_1 G S10) rfl (ix_in g32) d_GM_twice_32 ?_
        refine lv_topi (fun x32 ex32 => ?_)
        have hF := lt_of hF ex32
        refine lv_istore (lv' := [(5, .int x32), (4, .int y10_4), (3, .int y10_3), (2, .int y10_2), (0, .ref (mA G 0)), (1, .int p1)]) hx hb d_GM_twice_33 hl (by decide) rfl (fun ls hl => ?_)
        refine lv_iload_n hx hb d_GM_twice_35 rfl (lv_at hl 2 rfl) ?_
        obtain ⟨k72, hk72, hF⟩ := jn_of hF
        have join72 : ∀ (T1 : MS) (y72_2 : Int32) (H : Heap) (locs : List Loc) (ls : Array Slot), k72 T1 y72_2 = some R → va_P D vwCl (wM G T1) H → va_D A (wM G T1) → va_S A s.heap H locs → lv_has ls 6 [(5, .int x32), (4, .int y10_4), (3, .int y10_3), (2, .int y72_2), (0, .ref (mA G 0)), (1, .int p1)] → W p l e (headSpec ws_GM_twice ({ frames := 2, cells := 0, slots := 0, locals := 42 })).room s m ([.ref (mA G 0), .int p1] : List Value).toArray below meth c H locs 0 0 (MQ below (va_Qi (fun (r : Int32) (S' : MS) => (r, S') = R ∧ bl r) (wX D G A) A) ([.ref (mA G 0), .int p1] : List Value).toArray s 0 0 A) (F0 m 72 ls []) := by
          intro T72 y72_2 H locs ls hF hP hD hS hl
          rw [hk72] at hF
          refine lv_iload hx hb d_GM_twice_72 (lv_at hl 0 rfl) ?_
          refine lv_bipush (v := 123) hx hb d_GM_twice_74 (by decide) ?_
          obtain ⟨k82, hk82, hF⟩ := jn_of hF
          have join82 : ∀ (T1 : MS) (y82_3 : Int32) (H : Heap) (locs : List Loc) (ls : Array Slot), k82 T1 y82_3 = some R → va_P D vwCl (wM G T1) H → va_D A (wM G T1) → va_S A s.heap H locs → lv_has ls 6 [(5, .int x32), (4, .int y10_4), (3, .int y82_3), (2, .int y72_2), (0, .ref (mA G 0)), (1, .int p1)] → W p l e (headSpec ws_GM_twice ({ frames := 2, cells := 0, slots := 0, locals := 42 })).room s m ([.ref (mA G 0), .int p1] : List Value).toArray below meth c H locs 0 0 (MQ below (va_Qi (fun (r : Int32) (S' : MS) => (r, S') = R ∧ bl r) (wX D G A) A) ([.ref (mA G 0), .int p1] : List Value).toArray s 0 0 A) (F0 m 82 ls []) := by
            intro T82 y82_3 H locs ls hF hP hD hS hl
            rw [hk82] at hF
            refine lv_iload hx hb d_GM_twice_82 (lv_at hl 0 rfl) ?_
            refine lv_bipush (v := 125) hx hb d_GM_twice_84 (by decide) ?_
            obtain ⟨k92, hk92, hF⟩ := jn_of hF
            have join92 : ∀ (T1 : MS) (y92_3 : Int32) (H : Heap) (locs : List Loc) (ls : Array Slot), k92 T1 y92_3 = some R → va_P D vwCl (wM G T1) H → va_D A (wM G T1) → va_S A s.heap H locs → lv_has ls 6 [(5, .int x32), (4, .int y10_4), (3, .int y92_3), (2, .int y72_2), (0, .ref (mA G 0)), (1, .int p1)] → W p l e (headSpec ws_GM_twice ({ frames := 2, cells := 0, slots := 0, locals := 42 })).room s m ([.ref (mA G 0), .int p1] : List Value).toArray below meth c H locs 0 0 (MQ below (va_Qi (fun (r : Int32) (S' : MS) => (r, S') = R ∧ bl r) (wX D G A) A) ([.ref (mA G 0), .int p1] : List Value).toArray s 0 0 A) (F0 m 92 ls []) := by
              intro T92 y92_3 H locs ls hF hP hD hS hl
              rw [hk92] at hF
              obtain ⟨x92, ex92⟩ : ∃ y : Int32, y = y10_4 + 1 := ⟨_, rfl⟩
              have hF := lt_of hF ex92
              refine lv_iinc (v := x92) (lv' := [(4, .int x92), (5, .int x32), (3, .int y92_3), (2, .int y72_2), (0, .ref (mA G 0)), (1, .int p1)]) hx hb d_GM_twice_92 hl (k := 1) rfl (by rw [ex92]; rfl) (by decide) rfl (fun ls hl => ?_)
              refine lv_goto (tgt := 10) hx hb d_GM_twice_95 (by decide) ?_
              exact ih10 T92 y72_2 y92_3 x92 _ _ ls hF hP hD hS (lv_sub hl [0, 2, 3, 4, 5] rfl)
            refine lv_icmp_ne (tgt := 92) hx hb d_GM_twice_86 (by decide) (fun c_86 => ?_) (fun c_86 => ?_)
            · have hF := ng_of c_86 hF
              exact join92 T82 y82_3 _ _ ls hF hP hD hS (lv_sub hl [0, 1, 2, 3, 4, 5] rfl)
            · have hF := ps_of c_86 hF
              obtain ⟨x89, ex89⟩ : ∃ y : Int32, y = y82_3 + (-1) := ⟨_, rfl⟩
              have hF := lt_of hF ex89
              refine lv_iinc (v := x89) (lv' := [(3, .int x89), (5, .int x32), (4, .int y10_4), (2, .int y72_2), (0, .ref (mA G 0)), (1, .int p1)]) hx hb d_GM_twice_89 hl (k := 2) rfl (by rw [ex89]; rfl) (by decide) rfl (fun ls hl => ?_)
              exact join92 T82 x89 _ _ ls hF hP hD hS (lv_sub hl [1, 2, 0, 3, 4, 5] rfl)
          refine lv_icmp_ne (tgt := 82) hx hb d_GM_twice_76 (by decide) (fun c_76 => ?_) (fun c_76 => ?_)
          · have hF := ng_of c_76 hF
            exact join82 T72 y10_3 _ _ ls hF hP hD hS (lv_sub hl [0, 1, 2, 3, 4, 5] rfl)
          · have hF := ps_of c_76 hF
            obtain ⟨x79, ex79⟩ : ∃ y : Int32, y = y10_3 + 1 := ⟨_, rfl⟩
            have hF := lt_of hF ex79
            refine lv_iinc (v := x79) (lv' := [(3, .int x79), (5, .int x32), (4, .int y10_4), (2, .int y72_2), (0, .ref (mA G 0)), (1, .int p1)]) hx hb d_GM_twice_79 hl (k := 2) rfl (by rw [ex79]; rfl) (by decide) rfl (fun ls hl => ?_)
            exact join82 T72 x79 _ _ ls hF hP hD hS (lv_sub hl [1, 2, 0, 3, 4, 5] rfl)
        refine lv_if_ne (tgt := 72) hx hb d_GM_twice_36 (by decide) (fun c_36 => ?_) (fun c_36 => ?_)
        · have hF := ng_of c_36 hF
          exact join72 S10 y10_2 _ _ ls hF hP hD hS (lv_sub hl [0, 1, 2, 3, 4, 5] rfl)
        · have hF := ps_of c_36 hF
          refine lv_iload hx hb d_GM_twice_39 (lv_at hl 0 rfl) ?_
          refine vp_callSi (W.runS (As := [.int x32]) (rest := []) ⟨hx, hb, hml, hown, hts⟩ (c_GM_isLetter l x32) (cwS 1 hts (gS kw527 kw528 kw7 kw529) rfl rfl rfl (by decide +kernel) ⟨by show (1 : Nat) + 1 ≤ 2; omega, by show 8 + (1 + 11) + 22 ≤ 42; omega⟩) ⟨blindNM, fun U hU hW => ⟨rfl, trivial⟩⟩ rfl rfl hl.1 rfl (lv_room (Nat.le_of_ble_eq_true rfl)) d_GM_twice_41 ⟨Nat.zero_le _, Nat.zero_le _⟩) (fun x41 ex41 => ?_)
          obtain ⟨ex41, bx41⟩ := ex41
          have hF := lt_of hF ex41
          refine lv_if_eq (tgt := 72) hx hb d_GM_twice_44 (by decide) (fun c_44 => ?_) (fun c_44 => ?_)
          · have hF := ps_of c_44 hF
            exact join72 S10 y10_2 _ _ ls hF hP hD hS (lv_sub hl [0, 1, 2, 3, 4, 5] rfl)
          · have hF := ng_of c_44 hF
            refine lv_iload_n hx hb d_GM_twice_47 rfl (lv_at hl 3 rfl) ?_
            refine lv_iload hx hb d_GM_twice_48 (lv_at hl 0 rfl) ?_
            refine lv_bipush (v := 65) hx hb d_GM_twice_50 (by decide) ?_
            refine lv_isub hx hb d_GM_twice_52 ?_
            refine lv_topi (fun x52 ex52 => ?_)
            have hF := lt_of hF ex52
            refine lv_ishr hx hb d_GM_twice_53 ?_
            refine lv_topi (fun x53 ex53 => ?_)
            have hF := lt_of hF ex53
            refine lv_iconst (v := 1) hx hb d_GM_twice_54 (by decide) ?_
            refine lv_iand hx hb d_GM_twice_55 ?_
            refine lv_topi (fun x55 ex55 => ?_)
            have hF := lt_of hF ex55
            refine lv_iconst (v := 1) hx hb d_GM_twice_56 (by decide) ?_
            refine lv_icmp_ne (tgt := 62) hx hb d_GM_twice_57 (by decide) (fun c_57 => ?_) (fun c_57 => ?_)
            · have hF := ng_of c_57 hF
              refine lv_iload_n hx hb d_GM_twice_62 rfl (lv_at hl 3 rfl) ?_
              refine lv_iconst (v := 1) hx hb d_GM_twice_63 (by decide) ?_
              refine lv_iload hx hb d_GM_twice_64 (lv_at hl 0 rfl) ?_
              refine lv_bipush (v := 65) hx hb d_GM_twice_66 (by decide) ?_
              refine lv_isub hx hb d_GM_twice_68 ?_
              refine lv_topi (fun x68 ex68 => ?_)
              have hF := lt_of hF ex68
              refine lv_ishl hx hb d_GM_twice_69 ?_
              refine lv_topi (fun x69 ex69 => ?_)
              have hF := lt_of hF ex69
              refine lv_ior hx hb d_GM_twice_70 ?_
              refine lv_topi (fun x70 ex70 => ?_)
              have hF := lt_of hF ex70
              refine lv_istore_n (lv' := [(2, .int x70), (5, .int x32), (4, .int y10_4), (3, .int y10_3), (0, .ref (mA G 0)), (1, .int p1)]) hx hb d_GM_twice_71 rfl hl (by decide) rfl (fun ls hl => ?_)
              exact join72 S10 x70 _ _ ls hF hP hD hS (lv_sub hl [1, 2, 3, 0, 4, 5] rfl)
            · have hF := ps_of c_57 hF
              refine lv_iconst (v := 1) hx hb d_GM_twice_60 (by decide) ?_
              exact W.zret (v := 1) hx hb hr (bl_nar (Or.inr rfl)) (fun t ht hW => ⟨⟨1, S10, rfl, ⟨Option.some.inj hF, (Or.inr rfl)⟩, by rw [ht]; exact hP, hD⟩, hS.F ht⟩) hS.2.2 d_GM_twice_61
  refine loop10 _ ?_ (fz 2000) S 0 0 x7 _ _ ls hF hP hD hS hl
  intro S98 y98_2 y98_3 y98_4 H locs ls hF hP hD hS hl
  refine lv_iconst (v := 0) hx hb d_GM_twice_98 (by decide) ?_
  exact W.zret (v := 0) hx hb hr (bl_nar (Or.inl rfl)) (fun t ht hW => ⟨⟨0, S98, rfl, ⟨Option.some.inj hF, (Or.inl rfl)⟩, by rw [ht]; exact hP, hD⟩, hS.F ht⟩) hS.2.2 d_GM_twice_99
set_option maxHeartbeats 4000000 in
set_option maxRecDepth 100000 in
theorem c_GM_compile (l : Launch) (D : va_G) (G : MP) (S : MS) (sz : Nat) (p1 : Int32) (R : (Int32 × MS)) (hF : f_GM_compile S p1 = some R) : Met l y_GM_compile ws_GM_compile ({ frames := 5, cells := 0, slots := 0, locals := 108 }) (va_Pc [.ref (mA G 0), .int p1] (mPre D G S sz)) (va_Qi (fun (r : Int32) (S' : MS) => (r, S') = R) (wX D G (va_A (wM G S) sz)) (va_A (wM G S) sz)) 0 0 (va_A (wM G S) sz) := by
  refine Met.ofW (cc := b_GM_compile) (maxL := 2) (ret := (some .int)) (by decide) rfl ?_
  intro p e s m args below meth c s₁ B hml hv
  obtain ⟨rfl, hsz, hP, hK, hD0⟩ := hv
  have hx := B.exec
  have hb := B.bytes
  have hr := B.returns
  have hts := atoms_spec (ws := ws_GM_compile) B.pre
  have hown : s.vm.findClass R_GM = some m.cls := findClass_of_methodNamed B.named
  have hlocks := B.notSynchronized
  subst hsz
  have hD := hD0.self (sz := s.heap.size)
  generalize hAe : va_A (wM G S) s.heap.size = A at hD ⊢
  have hA : ∀ q : Nat, s.heap.size ≤ q → A q := fun q h => by rw [← hAe]; exact Or.inr h
  have hS : va_S A s.heap s.heap [] := va_S.rf
  have hl := lv_entry ([.ref (mA G 0), .int p1]) (n := 2) (Nat.le_of_ble_eq_true rfl)
  rw [lg_entry_eq]
  generalize (lg_sl ([.ref (mA G 0), .int p1]) ++ List.replicate (2 - (lg_sl ([.ref (mA G 0), .int p1])).length) Slot.unset).toArray = ls at hl ⊢
  have hl : lv_has ls 2 [(0, .ref (mA G 0)), (1, .int p1)] := hl
  unfold f_GM_compile at hF
  refine lv_iload_n hx hb d_GM_compile_0 rfl (lv_at hl 1 rfl) ?_
  refine lv_iconst (v := 0) hx hb d_GM_compile_1 (by decide) ?_
  refine lv_iconst (v := 2) hx hb d_GM_compile_2 (by decide) ?_
  refine vp_callSi (W.runS (As := [.int p1, .int 0, .int 2]) (rest := []) ⟨hx, hb, hml, hown, hts⟩ (c_GM_in l p1 0 2) (cwS 3 hts (gS kw510 kw511 kw7 kw512) rfl rfl rfl (by decide +kernel) ⟨by show (0 : Nat) + 1 ≤ 5; omega, by show 8 + (3 + 11) + 0 ≤ 108; omega⟩) ⟨blindNM, fun U hU hW => ⟨rfl, trivial⟩⟩ rfl rfl hl.1 rfl (lv_room (Nat.le_of_ble_eq_true rfl)) d_GM_compile_3 ⟨Nat.zero_le _, Nat.zero_le _⟩) (fun x3 ex3 => ?_)
  obtain ⟨ex3, bx3⟩ := ex3
  have hF := lt_of hF ex3
  refine lv_if_ne (tgt := 11) hx hb d_GM_compile_6 (by decide) (fun c_6 => ?_) (fun c_6 => ?_)
  · have hF := ng_of c_6 hF
    refine lv_aload_n hx hb d_GM_compile_11 rfl (lv_at hl 0 rfl) ?_
    obtain ⟨S12, hq12, hF⟩ := bd_of hF
    refine dq_v (va_runV (As := []) (rest := []) ⟨hx, hb, hml, hown, hts⟩ (c_GM_unlink l D G S _  S12 hq12) (cwV 0 hts (gV kw513 kw514 kw652 kw7 kw515) rfl rfl rfl (by decide +kernel) ⟨by show (0 : Nat) + 1 ≤ 5; omega, by show 8 + (1 + 11) + 0 ≤ 108; omega⟩) ⟨blindM, va_recv (ci := 6) (q0 := 0) hK hP rfl (m_0 G S), fun U hU hW => ⟨rfl, mPre_of hP hK hD hU hW⟩⟩ rfl rfl hl.1 rfl (lv_room (Nat.le_of_ble_eq_true rfl)) d_GM_compile_12 ⟨Nat.zero_le _, Nat.zero_le _⟩) hD hS hA (fun rS12 H locs hw hP hD hS => ?_)
    have hw := hw.symm
    subst hw
    refine lv_aload_n hx hb d_GM_compile_15 rfl (lv_at hl 0 rfl) ?_
    refine va_get (D := D) (ci := 6) (v := .ref (mA G 3)) (C := R_GM) (T := T_GM) (N := 30) hx hb hts (fun w h => List.mem_cons_of_mem _ (in_GM w h)) hown hK hP 0 (m_0 G S12) rfl 2 (by decide) (hts _ (List.mem_cons_of_mem _ kw446)) (fun _ h9 => h9) rfl d_GM_compile_16 ?_
    refine lv_iload_n hx hb d_GM_compile_19 rfl (lv_at hl 1 rfl) ?_
    refine lv_iconst (v := 0) hx hb d_GM_compile_20 (by decide) ?_
    obtain ⟨g21, hF⟩ := gd_of hF
    refine va_zastE (D := D) hx hb hK hP hD hS 3 1 (m_3 G S12) rfl (ix_in g21) (Or.inl rfl) (msta_3 G S12 p1.toNatClampNeg 0) d_GM_compile_21 (fun H locs hP hD hS => ?_)
    obtain ⟨S21, eS21⟩ : ∃ y : MS, y = stM S12 3 p1.toNatClampNeg 0 := ⟨_, rfl⟩
    rw [← eS21] at hP hD
    have hF := lt_of hF eS21
    refine lv_aload_n hx hb d_GM_compile_22 rfl (lv_at hl 0 rfl) ?_
    refine lv_iload_n hx hb d_GM_compile_23 rfl (lv_at hl 1 rfl) ?_
    obtain ⟨x24, S24, hq24, hF⟩ := bd2_of hF
    refine dq_i (va_runV (As := [.int p1]) (rest := []) ⟨hx, hb, hml, hown, hts⟩ (c_GM_fault l D G S21 _ p1 (x24, S24) hq24) (cwV 1 hts (gV kw555 kw521 kw522 kw7 kw523) rfl rfl rfl (by decide +kernel) ⟨by show (4 : Nat) + 1 ≤ 5; omega, by show 8 + (3 + 11) + 86 ≤ 108; omega⟩) ⟨blindM, va_recv (ci := 6) (q0 := 0) hK hP rfl (m_0 G S21), fun U hU hW => ⟨rfl, mPre_of hP hK hD hU hW⟩⟩ rfl rfl hl.1 rfl (lv_room (Nat.le_of_ble_eq_true rfl)) d_GM_compile_24 ⟨Nat.zero_le _, Nat.zero_le _⟩) hD hS hA (fun rx24 rS24 H locs hw hP hD hS => ?_)
    obtain ⟨h1, h2⟩ := Prod.mk.inj hw
    have h1 := h1.symm
    have h2 := h2.symm
    subst h1
    subst h2
    refine lv_bipush (v := (-2)) hx hb d_GM_compile_27 (by decide) ?_
    refine lv_icmp_eq (tgt := 35) hx hb d_GM_compile_29 (by decide) (fun c_29 => ?_) (fun c_29 => ?_)
    · have hF := ps_of c_29 hF
      refine lv_aload_n hx hb d_GM_compile_35 rfl (lv_at hl 0 rfl) ?_
      refine lv_iload_n hx hb d_GM_compile_36 rfl (lv_at hl 1 rfl) ?_
      obtain ⟨x37, S37, hq37, hF⟩ := bd2_of hF
      refine dq_i (va_runV (As := [.int p1]) (rest := []) ⟨hx, hb, hml, hown, hts⟩ (c_GM_twice l D G S24 _ p1 (x37, S37) hq37) (cwV 1 hts (gV kw556 kw557 kw659 kw7 kw558) rfl rfl rfl (by decide +kernel) ⟨by show (2 : Nat) + 1 ≤ 5; omega, by show 8 + (6 + 11) + 42 ≤ 108; omega⟩) ⟨blindM, va_recv (ci := 6) (q0 := 0) hK hP rfl (m_0 G S24), fun U hU hW => ⟨rfl, mPre_of hP hK hD hU hW⟩⟩ rfl rfl hl.1 rfl (lv_room (Nat.le_of_ble_eq_true rfl)) d_GM_compile_37 ⟨Nat.zero_le _, Nat.zero_le _⟩) hD hS hA (fun rx37 rS37 H locs hw hP hD hS => ?_)
      obtain ⟨hw, bx37⟩ := hw
      obtain ⟨h1, h2⟩ := Prod.mk.inj hw
      have h1 := h1.symm
      have h2 := h2.symm
      subst h1
      subst h2
      refine lv_if_eq (tgt := 46) hx hb d_GM_compile_40 (by decide) (fun c_40 => ?_) (fun c_40 => ?_)
      · have hF := ps_of c_40 hF
        refine lv_aload_n hx hb d_GM_compile_46 rfl (lv_at hl 0 rfl) ?_
        refine va_get (D := D) (ci := 6) (v := .ref (mA G 3)) (C := R_GM) (T := T_GM) (N := 30) hx hb hts (fun w h => List.mem_cons_of_mem _ (in_GM w h)) hown hK hP 0 (m_0 G S37) rfl 2 (by decide) (hts _ (List.mem_cons_of_mem _ kw446)) (fun _ h9 => h9) rfl d_GM_compile_47 ?_
        refine lv_iload_n hx hb d_GM_compile_50 rfl (lv_at hl 1 rfl) ?_
        refine lv_iconst (v := 1) hx hb d_GM_compile_51 (by decide) ?_
        obtain ⟨g52, hF⟩ := gd_of hF
        refine va_zastE (D := D) hx hb hK hP hD hS 3 1 (m_3 G S37) rfl (ix_in g52) (Or.inr rfl) (msta_3 G S37 p1.toNatClampNeg 1) d_GM_compile_52 (fun H locs hP hD hS => ?_)
        obtain ⟨S52, eS52⟩ : ∃ y : MS, y = stM S37 3 p1.toNatClampNeg 1 := ⟨_, rfl⟩
        rw [← eS52] at hP hD
        have hF := lt_of hF eS52
        refine lv_aload_n hx hb d_GM_compile_53 rfl (lv_at hl 0 rfl) ?_
        refine lv_iload_n hx hb d_GM_compile_54 rfl (lv_at hl 1 rfl) ?_
        obtain ⟨x55, S55, hq55, hF⟩ := bd2_of hF
        refine dq_i (va_runV (As := [.int p1]) (rest := []) ⟨hx, hb, hml, hown, hts⟩ (c_GM_map l D G S52 _ p1 (x55, S55) hq55) (cwV 1 hts (gV kw559 kw560 kw660 kw7 kw561) rfl rfl rfl (by decide +kernel) ⟨by show (2 : Nat) + 1 ≤ 5; omega, by show 8 + (11 + 11) + 42 ≤ 108; omega⟩) ⟨blindM, va_recv (ci := 6) (q0 := 0) hK hP rfl (m_0 G S52), fun U hU hW => ⟨rfl, mPre_of hP hK hD hU hW⟩⟩ rfl rfl hl.1 rfl (lv_room (Nat.le_of_ble_eq_true rfl)) d_GM_compile_55 ⟨Nat.zero_le _, Nat.zero_le _⟩) hD hS hA (fun rx55 rS55 H locs hw hP hD hS => ?_)
        obtain ⟨h1, h2⟩ := Prod.mk.inj hw
        have h1 := h1.symm
        have h2 := h2.symm
        subst h1
        subst h2
        exact W.iret (v := x55) hx hb hr (fun t ht hW => ⟨⟨x55, S55, rfl, Option.some.inj hF, by rw [ht]; exact hP, hD⟩, hS.F ht⟩) hS.2.2 d_GM_compile_58
      · have hF := ng_of c_40 hF
        refine lv_bipush (v := (-3)) hx hb d_GM_compile_43 (by decide) ?_
        exact W.iret (v := (-3)) hx hb hr (fun t ht hW => ⟨⟨(-3), S37, rfl, Option.some.inj hF, by rw [ht]; exact hP, hD⟩, hS.F ht⟩) hS.2.2 d_GM_compile_45
    · have hF := ng_of c_29 hF
      refine lv_bipush (v := (-2)) hx hb d_GM_compile_32 (by decide) ?_
      exact W.iret (v := (-2)) hx hb hr (fun t ht hW => ⟨⟨(-2), S24, rfl, Option.some.inj hF, by rw [ht]; exact hP, hD⟩, hS.F ht⟩) hS.2.2 d_GM_compile_34
  · have hF := ps_of c_6 hF
    refine lv_iconst (v := (-1)) hx hb d_GM_compile_9 (by decide) ?_
    exact W.iret (v := (-1)) hx hb hr (fun t ht hW => ⟨⟨(-1), S, rfl, Option.some.inj hF, by rw [ht]; exact hP, hD⟩, hS.F ht⟩) hS.2.2 d_GM_compile_10
set_option maxHeartbeats 4000000 in
set_option maxRecDepth 100000 in
theorem c_GM_gather (l : Launch) (D : va_G) (G : MP) (S : MS) (sz : Nat) (R : (Int32 × MS)) (hF : f_GM_gather S  = some R) : Met l y_GM_gather ws_GM_gather ({ frames := 3, cells := 0, slots := 0, locals := 72 }) (va_Pc [.ref (mA G 0)] (mPre D G S sz)) (va_Qi (fun (r : Int32) (S' : MS) => (r, S') = R ∧ bl r) (wX D G (va_A (wM G S) sz)) (va_A (wM G S) sz)) 0 0 (va_A (wM G S) sz) := by
  refine Met.ofW (cc := b_GM_gather) (maxL := 7) (ret := (some .boolean)) (by decide) rfl ?_
  intro p e s m args below meth c s₁ B hml hv
  obtain ⟨rfl, hsz, hP, hK, hD0⟩ := hv
  have hx := B.exec
  have hb := B.bytes
  have hr := B.returns
  have hts := atoms_spec (ws := ws_GM_gather) B.pre
  have hown : s.vm.findClass R_GM = some m.cls := findClass_of_methodNamed B.named
  have hlocks := B.notSynchronized
  subst hsz
  have hD := hD0.self (sz := s.heap.size)
  generalize hAe : va_A (wM G S) s.heap.size = A at hD ⊢
  have hA : ∀ q : Nat, s.heap.size ≤ q → A q := fun q h => by rw [← hAe]; exact Or.inr h
  have hS : va_S A s.heap s.heap [] := va_S.rf
  have hl := lv_entry ([.ref (mA G 0)]) (n := 7) (Nat.le_of_ble_eq_true rfl)
  rw [lg_entry_eq]
  generalize (lg_sl ([.ref (mA G 0)]) ++ List.replicate (7 - (lg_sl ([.ref (mA G 0)])).length) Slot.unset).toArray = ls at hl ⊢
  have hl : lv_has ls 7 [(0, .ref (mA G 0))] := hl
  unfold f_GM_gather at hF
  refine lv_iconst (v := 0) hx hb d_GM_gather_0 (by decide) ?_
  refine lv_istore_n (lv' := [(1, .int 0), (0, .ref (mA G 0))]) hx hb d_GM_gather_1 rfl hl (by decide) rfl (fun ls hl => ?_)
  have loop2 : ∀ (K2 : MS → Int32 → Option (Int32 × MS)) (hexit : ∀ (S1 : MS) (y2_1 : Int32) (H : Heap) (locs : List Loc) (ls : Array Slot), K2 S1 y2_1 = some R → va_P D vwCl (wM G S1) H → va_D A (wM G S1) → va_S A s.heap H locs → lv_has ls 7 [(1, .int y2_1), (0, .ref (mA G 0))] → W p l e (headSpec ws_GM_gather ({ frames := 3, cells := 0, slots := 0, locals := 72 })).room s m ([.ref (mA G 0)] : List Value).toArray below meth c H locs 0 0 (MQ below (va_Qi (fun (r : Int32) (S' : MS) => (r, S') = R ∧ bl r) (wX D G A) A) ([.ref (mA G 0)] : List Value).toArray s 0 0 A) (F0 m 28 ls [])) (n : Nat) (S1 : MS) (y2_1 : Int32) (H : Heap) (locs : List Loc) (ls : Array Slot), q_GM_gather_2 n S1 y2_1 K2 = some R → va_P D vwCl (wM G S1) H → va_D A (wM G S1) → va_S A s.heap H locs → lv_has ls 7 [(1, .int y2_1), (0, .ref (mA G 0))] → W p l e (headSpec ws_GM_gather ({ frames := 3, cells := 0, slots := 0, locals := 72 })).room s m ([.ref (mA G 0)] : List Value).toArray below meth c H locs 0 0 (MQ below (va_Qi (fun (r : Int32) (S' : MS) => (r, S') = R ∧ bl r) (wX D G A) A) ([.ref (mA G 0)] : List Value).toArray s 0 0 A) (F0 m 2 ls []) := by
    intro K2 hexit2 n
    induction n with
    | zero => intro S1 y2_1 H locs ls hF; exact nomatch (show (none : Option (Int32 × MS)) = some R from hF)
    | succ n ih2 =>
      intro S2 y2_1 H locs ls hF hP hD hS hl
      rw [q_GM_gather_2] at hF
      refine lv_iload_n hx hb d_GM_gather_2 rfl (lv_at hl 0 rfl) ?_
      refine lv_bipush (v := 26) hx hb d_GM_gather_3 (by decide) ?_
      refine lv_icmp_ge (tgt := 28) hx hb d_GM_gather_5 (by decide) (fun c_5 => ?_) (fun c_5 => ?_)
      · have hF := ps_of c_5 hF
        exact hexit2 S2 y2_1 _ _ ls hF hP hD hS (lv_sub hl [0, 1] rfl)
      · have hF := ng_of c_5 hF
        refine lv_aload_n hx hb d_GM_gather_8 rfl (lv_at hl 1 rfl) ?_
        refine va_get (D := D) (ci := 6) (v := .ref (mA G 10)) (C := R_GM) (T := T_GM) (N := 30) hx hb hts (fun w h => List.mem_cons_of_mem _ (in_GM w h)) hown hK hP 0 (m_0 G S2) rfl 15 (by decide) (hts _ (List.mem_cons_of_mem _ kw459)) (fun _ h9 => h9) rfl d_GM_gather_9 ?_
        refine lv_iload_n hx hb d_GM_gather_12 rfl (lv_at hl 0 rfl) ?_
        refine lv_iconst (v := (-1)) hx hb d_GM_gather_13 (by decide) ?_
        obtain ⟨g14, hF⟩ := gd_of hF
        refine va_iastE (D := D) hx hb hK hP hD hS 10 0 (m_10 G S2) rfl (ix_in g14) (msta_10 G S2 y2_1.toNatClampNeg (-1)) d_GM_gather_14 (fun H locs hP hD hS => ?_)
        obtain ⟨S14, eS14⟩ : ∃ y : MS, y = stM S2 10 y2_1.toNatClampNeg (-1) := ⟨_, rfl⟩
        rw [← eS14] at hP hD
        have hF := lt_of hF eS14
        refine lv_aload_n hx hb d_GM_gather_15 rfl (lv_at hl 1 rfl) ?_
        refine va_get (D := D) (ci := 6) (v := .ref (mA G 11)) (C := R_GM) (T := T_GM) (N := 30) hx hb hts (fun w h => List.mem_cons_of_mem _ (in_GM w h)) hown hK hP 0 (m_0 G S14) rfl 16 (by decide) (hts _ (List.mem_cons_of_mem _ kw460)) (fun _ h9 => h9) rfl d_GM_gather_16 ?_
        refine lv_iload_n hx hb d_GM_gather_19 rfl (lv_at hl 0 rfl) ?_
        refine lv_iconst (v := 0) hx hb d_GM_gather_20 (by decide) ?_
        obtain ⟨g21, hF⟩ := gd_of hF
        refine va_iastE (D := D) hx hb hK hP hD hS 11 0 (m_11 G S14) rfl (ix_in g21) (msta_11 G S14 y2_1.toNatClampNeg 0) d_GM_gather_21 (fun H locs hP hD hS => ?_)
        obtain ⟨S21, eS21⟩ : ∃ y : MS, y = stM S14 11 y2_1.toNatClampNeg 0 := ⟨_, rfl⟩
        rw [← eS21] at hP hD
        have hF := lt_of hF eS21
        obtain ⟨x22, ex22⟩ : ∃ y : Int32, y = y2_1 + 1 := ⟨_, rfl⟩
        have hF := lt_of hF ex22
        refine lv_iinc (v := x22) (lv' := [(1, .int x22), (0, .ref (mA G 0))]) hx hb d_GM_gather_22 hl (k := 0) rfl (by rw [ex22]; rfl) (by decide) rfl (fun ls hl => ?_)
        refine lv_goto (tgt := 2) hx hb d_GM_gather_25 (by decide) ?_
        exact ih2 S21 x22 _ _ ls hF hP hD hS (lv_sub hl [0, 1] rfl)
  refine loop2 _ ?_ (fz 2000) S 0 _ _ ls hF hP hD hS hl
  intro S28 y28_1 H locs ls hF hP hD hS hl
  refine lv_iconst (v := 0) hx hb d_GM_gather_28 (by decide) ?_
  refine lv_istore_n (lv' := [(1, .int 0), (0, .ref (mA G 0))]) hx hb d_GM_gather_29 rfl hl (by decide) rfl (fun ls hl => ?_)
  have loop30 : ∀ (K30 : MS → Int32 → Option (Int32 × MS)) (hexit : ∀ (S1 : MS) (y30_1 : Int32) (H : Heap) (locs : List Loc) (ls : Array Slot), K30 S1 y30_1 = some R → va_P D vwCl (wM G S1) H → va_D A (wM G S1) → va_S A s.heap H locs → lv_has ls 7 [(1, .int y30_1), (0, .ref (mA G 0))] → W p l e (headSpec ws_GM_gather ({ frames := 3, cells := 0, slots := 0, locals := 72 })).room s m ([.ref (mA G 0)] : List Value).toArray below meth c H locs 0 0 (MQ below (va_Qi (fun (r : Int32) (S' : MS) => (r, S') = R ∧ bl r) (wX D G A) A) ([.ref (mA G 0)] : List Value).toArray s 0 0 A) (F0 m 179 ls [])) (n : Nat) (S1 : MS) (y30_1 : Int32) (H : Heap) (locs : List Loc) (ls : Array Slot), q_GM_gather_30 n S1 y30_1 K30 = some R → va_P D vwCl (wM G S1) H → va_D A (wM G S1) → va_S A s.heap H locs → lv_has ls 7 [(1, .int y30_1), (0, .ref (mA G 0))] → W p l e (headSpec ws_GM_gather ({ frames := 3, cells := 0, slots := 0, locals := 72 })).room s m ([.ref (mA G 0)] : List Value).toArray below meth c H locs 0 0 (MQ below (va_Qi (fun (r : Int32) (S' : MS) => (r, S') = R ∧ bl r) (wX D G A) A) ([.ref (mA G 0)] : List Value).toArray s 0 0 A) (F0 m 30 ls []) := by
    intro K30 hexit30 n
    induction n with
    | zero => intro S1 y30_1 H locs ls hF; exact nomatch (show (none : Option (Int32 × MS)) = some R from hF)
    | succ n ih30 =>
      intro S30 y30_1 H locs ls hF hP hD hS hl
      rw [q_GM_gather_30] at hF
      refine lv_iload_n hx hb d_GM_gather_30 rfl (lv_at hl 0 rfl) ?_
      refine lv_iconst (v := 3) hx hb d_GM_gather_31 (by decide) ?_
      refine lv_icmp_ge (tgt := 179) hx hb d_GM_gather_32 (by decide) (fun c_32 => ?_) (fun c_32 => ?_)
      · have hF := ps_of c_32 hF
        exact hexit30 S30 y30_1 _ _ ls hF hP hD hS (lv_sub hl [0, 1] rfl)
      · have hF := ng_of c_32 hF
        refine lv_aload_n hx hb d_GM_gather_35 rfl (lv_at hl 1 rfl) ?_
        refine lv_iload_n hx hb d_GM_gather_36 rfl (lv_at hl 0 rfl) ?_
        obtain ⟨x37, S37, hq37, hF⟩ := bd2_of hF
        refine dq_i (va_runV (As := [.int y30_1]) (rest := []) ⟨hx, hb, hml, hown, hts⟩ (c_GM_map l D G S30 _ y30_1 (x37, S37) hq37) (cwV 1 hts (gV kw559 kw560 kw660 kw7 kw561) rfl rfl rfl (by decide +kernel) ⟨by show (2 : Nat) + 1 ≤ 3; omega, by show 8 + (11 + 11) + 42 ≤ 72; omega⟩) ⟨blindM, va_recv (ci := 6) (q0 := 0) hK hP rfl (m_0 G S30), fun U hU hW => ⟨rfl, mPre_of hP hK hD hU hW⟩⟩ rfl rfl hl.1 rfl (lv_room (Nat.le_of_ble_eq_true rfl)) d_GM_gather_37 ⟨Nat.zero_le _, Nat.zero_le _⟩) hD hS hA (fun rx37 rS37 H locs hw hP hD hS => ?_)
        obtain ⟨h1, h2⟩ := Prod.mk.inj hw
        have h1 := h1.symm
        have h2 := h2.symm
        subst h1
        subst h2
        refine lv_istore_n (lv' := [(2, .int x37), (1, .int y30_1), (0, .ref (mA G 0))]) hx hb d_GM_gather_40 rfl hl (by decide) rfl (fun ls hl => ?_)
        refine lv_iconst (v := 0) hx hb d_GM_gather_41 (by decide) ?_
        refine lv_istore_n (lv' := [(3, .int 0), (2, .int x37), (1, .int y30_1), (0, .ref (mA G 0))]) hx hb d_GM_gather_42 rfl hl (by decide) rfl (fun ls hl => ?_)
        refine lv_iconst (v := 0) hx hb d_GM_gather_43 (by decide) ?_
        refine lv_istore (lv' := [(4, .int 0), (3, .int 0), (2, .int x37), (1, .int y30_1), (0, .ref (mA G 0))]) hx hb d_GM_gather_44 hl (by decide) rfl (fun ls hl => ?_)
        refine lv_bipush (v := 60) hx hb d_GM_gather_46 (by decide) ?_
        refine lv_iload_n hx hb d_GM_gather_48 rfl (lv_at hl 3 rfl) ?_
        refine lv_imul hx hb d_GM_gather_49 ?_
        refine lv_topi (fun x49 ex49 => ?_)
        have hF := lt_of hF ex49
        refine lv_istore (lv' := [(5, .int x49), (4, .int 0), (3, .int 0), (2, .int x37), (1, .int y30_1), (0, .ref (mA G 0))]) hx hb d_GM_gather_50 hl (by decide) rfl (fun ls hl => ?_)
        have loop52 : ∀ (K52 : MS → Int32 → Int32 → Int32 → Option (Int32 × MS)) (hexit : ∀ (S1 : MS) (y52_4 : Int32) (y52_3 : Int32) (y52_5 : Int32) (H : Heap) (locs : List Loc) (ls : Array Slot), K52 S1 y52_4 y52_3 y52_5 = some R → va_P D vwCl (wM G S1) H → va_D A (wM G S1) → va_S A s.heap H locs → lv_has ls 7 [(5, .int y52_5), (4, .int y52_4), (3, .int y52_3), (2, .int x37), (1, .int y30_1), (0, .ref (mA G 0))] → W p l e (headSpec ws_GM_gather ({ frames := 3, cells := 0, slots := 0, locals := 72 })).room s m ([.ref (mA G 0)] : List Value).toArray below meth c H locs 0 0 (MQ below (va_Qi (fun (r : Int32) (S' : MS) => (r, S') = R ∧ bl r) (wX D G A) A) ([.ref (mA G 0)] : List Value).toArray s 0 0 A) (F0 m 173 ls [])) (n : Nat) (S1 : MS) (y52_4 : Int32) (y52_3 : Int32) (y52_5 : Int32) (H : Heap) (locs : List Loc) (ls : Array Slot), q_GM_gather_52 n S1 x37 y30_1 y52_4 y52_3 y52_5 K52 = some R → va_P D vwCl (wM G S1) H → va_D A (wM G S1) → va_S A s.heap H locs → lv_has ls 7 [(5, .int y52_5), (4, .int y52_4), (3, .int y52_3), (2, .int x37), (1, .int y30_1), (0, .ref (mA G 0))] → W p l e (headSpec ws_GM_gather ({ frames := 3, cells := 0, slots := 0, locals := 72 })).room s m ([.ref (mA G 0)] : List Value).toArray below meth c H locs 0 0 (MQ below (va_Qi (fun (r : Int32) (S' : MS) => (r, S') = R ∧ bl r) (wX D G A) A) ([.ref (mA G 0)] : List Value).toArray s 0 0 A) (F0 m 52 ls []) := by
          intro K52 hexit52 n
          induction n with
          | zero => intro S1 y52_4 y52_3 y52_5 H locs ls hF; exact nomatch (show (none : Option (Int32 × MS)) = some R from hF)
          | succ n ih52 =>
            intro S52 y52_4 y52_3 y52_5 H locs ls hF hP hD hS hl
            rw [q_GM_gather_52] at hF
            refine lv_iload hx hb d_GM_gather_52 (lv_at hl 0 rfl) ?_
            refine lv_bipush (v := 60) hx hb d_GM_gather_54 (by decide) ?_
            refine lv_iload_n hx hb d_GM_gather_56 rfl (lv_at hl 4 rfl) ?_
            refine lv_imul hx hb d_GM_gather_57 ?_
            refine lv_topi (fun x57 ex57 => ?_)
            have hF := lt_of hF ex57
            refine lv_aload_n hx hb d_GM_gather_58 rfl (lv_at hl 5 rfl) ?_
            refine va_get (D := D) (ci := 6) (v := .ref (mA G 2)) (C := R_GM) (T := T_GM) (N := 30) hx hb hts (fun w h => List.mem_cons_of_mem _ (in_GM w h)) hown hK hP 0 (m_0 G S52) rfl 1 (by decide) (hts _ (List.mem_cons_of_mem _ kw445)) (fun _ h9 => h9) rfl d_GM_gather_59 ?_
            refine lv_iload_n hx hb d_GM_gather_62 rfl (lv_at hl 4 rfl) ?_
            obtain ⟨g63, hF⟩ := gd_of hF
            refine va_iald (D := D) hx hb hK hP 2 0 (m_2 G S52) rfl (ix_in g63) d_GM_gather_63 ?_
            refine lv_topi (fun x63 ex63 => ?_)
            have hF := lt_of hF ex63
            refine lv_iadd hx hb d_GM_gather_64 ?_
            refine lv_topi (fun x64 ex64 => ?_)
            have hF := lt_of hF ex64
            refine lv_icmp_ge (tgt := 173) hx hb d_GM_gather_65 (by decide) (fun c_65 => ?_) (fun c_65 => ?_)
            · have hF := ps_of c_65 hF
              exact hexit52 S52 y52_4 y52_3 y52_5 _ _ ls hF hP hD hS (lv_sub hl [0, 1, 2, 3, 4, 5] rfl)
            · have hF := ng_of c_65 hF
              refine lv_aload_n hx hb d_GM_gather_68 rfl (lv_at hl 5 rfl) ?_
              refine va_get (D := D) (ci := 6) (v := .ref (mA G 1)) (C := R_GM) (T := T_GM) (N := 30) hx hb hts (fun w h => List.mem_cons_of_mem _ (in_GM w h)) hown hK hP 0 (m_0 G S52) rfl 0 (by decide) (hts _ (List.mem_cons_of_mem _ kw444)) (fun _ h9 => h9) rfl d_GM_gather_69 ?_
              refine lv_iload hx hb d_GM_gather_72 (lv_at hl 0 rfl) ?_
              obtain ⟨g74, hF⟩ := gd_of hF
              refine va_iald (D := D) hx hb hK hP 1 0 (m_1 G S52) rfl (ix_in g74) d_GM_gather_74 ?_
              refine lv_topi (fun x74 ex74 => ?_)
              have hF := lt_of hF ex74
              refine lv_istore (lv' := [(6, .int x74), (5, .int y52_5), (4, .int y52_4), (3, .int y52_3), (2, .int x37), (1, .int y30_1), (0, .ref (mA G 0))]) hx hb d_GM_gather_75 hl (by decide) rfl (fun ls hl => ?_)
              refine lv_iload_n hx hb d_GM_gather_77 rfl (lv_at hl 3 rfl) ?_
              obtain ⟨k147, hk147, hF⟩ := jn_of hF
              have join147 : ∀ (T1 : MS) (y147_4 : Int32) (H : Heap) (locs : List Loc) (ls : Array Slot), k147 T1 y147_4 = some R → va_P D vwCl (wM G T1) H → va_D A (wM G T1) → va_S A s.heap H locs → lv_has ls 7 [(6, .int x74), (5, .int y52_5), (4, .int y147_4), (3, .int y52_3), (2, .int x37), (1, .int y30_1), (0, .ref (mA G 0))] → W p l e (headSpec ws_GM_gather ({ frames := 3, cells := 0, slots := 0, locals := 72 })).room s m ([.ref (mA G 0)] : List Value).toArray below meth c H locs 0 0 (MQ below (va_Qi (fun (r : Int32) (S' : MS) => (r, S') = R ∧ bl r) (wX D G A) A) ([.ref (mA G 0)] : List Value).toArray s 0 0 A) (F0 m 147 ls []) := by
                intro T147 y147_4 H locs ls hF hP hD hS hl
                rw [hk147] at hF
                refine lv_iload hx hb d_GM_gather_147 (lv_at hl 0 rfl) ?_
                refine lv_bipush (v := 123) hx hb d_GM_gather_149 (by decide) ?_
                obtain ⟨k157, hk157, hF⟩ := jn_of hF
                have join157 : ∀ (T1 : MS) (y157_3 : Int32) (H : Heap) (locs : List Loc) (ls : Array Slot), k157 T1 y157_3 = some R → va_P D vwCl (wM G T1) H → va_D A (wM G T1) → va_S A s.heap H locs → lv_has ls 7 [(6, .int x74), (5, .int y52_5), (4, .int y147_4), (3, .int y157_3), (2, .int x37), (1, .int y30_1), (0, .ref (mA G 0))] → W p l e (headSpec ws_GM_gather ({ frames := 3, cells := 0, slots := 0, locals := 72 })).room s m ([.ref (mA G 0)] : List Value).toArray below meth c H locs 0 0 (MQ below (va_Qi (fun (r : Int32) (S' : MS) => (r, S') = R ∧ bl r) (wX D G A) A) ([.ref (mA G 0)] : List Value).toArray s 0 0 A) (F0 m 157 ls []) := by
                  intro T157 y157_3 H locs ls hF hP hD hS hl
                  rw [hk157] at hF
                  refine lv_iload hx hb d_GM_gather_157 (lv_at hl 0 rfl) ?_
                  refine lv_bipush (v := 125) hx hb d_GM_gather_159 (by decide) ?_
                  obtain ⟨k167, hk167, hF⟩ := jn_of hF
                  have join167 : ∀ (T1 : MS) (y167_3 : Int32) (H : Heap) (locs : List Loc) (ls : Array Slot), k167 T1 y167_3 = some R → va_P D vwCl (wM G T1) H → va_D A (wM G T1) → va_S A s.heap H locs → lv_has ls 7 [(6, .int x74), (5, .int y52_5), (4, .int y147_4), (3, .int y167_3), (2, .int x37), (1, .int y30_1), (0, .ref (mA G 0))] → W p l e (headSpec ws_GM_gather ({ frames := 3, cells := 0, slots := 0, locals := 72 })).room s m ([.ref (mA G 0)] : List Value).toArray below meth c H locs 0 0 (MQ below (va_Qi (fun (r : Int32) (S' : MS) => (r, S') = R ∧ bl r) (wX D G A) A) ([.ref (mA G 0)] : List Value).toArray s 0 0 A) (F0 m 167 ls []) := by
                    intro T167 y167_3 H locs ls hF hP hD hS hl
                    rw [hk167] at hF
                    obtain ⟨x167, ex167⟩ : ∃ y : Int32, y = y52_5 + 1 := ⟨_, rfl⟩
                    have hF := lt_of hF ex167
                    refine lv_iinc (v := x167) (lv' := [(5, .int x167), (6, .int x74), (4, .int y147_4), (3, .int y167_3), (2, .int x37), (1, .int y30_1), (0, .ref (mA G 0))]) hx hb d_GM_gather_167 hl (k := 1) rfl (by rw [ex167]; rfl) (by decide) rfl (fun ls hl => ?_)
                    refine lv_goto (tgt := 52) hx hb d_GM_gather_170 (by decide) ?_
                    exact ih52 T167 y147_4 y167_3 x167 _ _ ls hF hP hD hS (lv_sub hl [0, 2, 3, 4, 5, 6] rfl)
                  refine lv_icmp_ne (tgt := 167) hx hb d_GM_gather_161 (by decide) (fun c_161 => ?_) (fun c_161 => ?_)
                  · have hF := ng_of c_161 hF
                    exact join167 T157 y157_3 _ _ ls hF hP hD hS (lv_sub hl [0, 1, 2, 3, 4, 5, 6] rfl)
                  · have hF := ps_of c_161 hF
                    obtain ⟨x164, ex164⟩ : ∃ y : Int32, y = y157_3 + (-1) := ⟨_, rfl⟩
                    have hF := lt_of hF ex164
                    refine lv_iinc (v := x164) (lv' := [(3, .int x164), (6, .int x74), (5, .int y52_5), (4, .int y147_4), (2, .int x37), (1, .int y30_1), (0, .ref (mA G 0))]) hx hb d_GM_gather_164 hl (k := 3) rfl (by rw [ex164]; rfl) (by decide) rfl (fun ls hl => ?_)
                    exact join167 T157 x164 _ _ ls hF hP hD hS (lv_sub hl [1, 2, 3, 0, 4, 5, 6] rfl)
                refine lv_icmp_ne (tgt := 157) hx hb d_GM_gather_151 (by decide) (fun c_151 => ?_) (fun c_151 => ?_)
                · have hF := ng_of c_151 hF
                  exact join157 T147 y52_3 _ _ ls hF hP hD hS (lv_sub hl [0, 1, 2, 3, 4, 5, 6] rfl)
                · have hF := ps_of c_151 hF
                  obtain ⟨x154, ex154⟩ : ∃ y : Int32, y = y52_3 + 1 := ⟨_, rfl⟩
                  have hF := lt_of hF ex154
                  refine lv_iinc (v := x154) (lv' := [(3, .int x154), (6, .int x74), (5, .int y52_5), (4, .int y147_4), (2, .int x37), (1, .int y30_1), (0, .ref (mA G 0))]) hx hb d_GM_gather_154 hl (k := 3) rfl (by rw [ex154]; rfl) (by decide) rfl (fun ls hl => ?_)
                  exact join157 T147 x154 _ _ ls hF hP hD hS (lv_sub hl [1, 2, 3, 0, 4, 5, 6] rfl)
              obtain ⟨k122, hk122, hF⟩ := jn_of hF
              have join122 : ∀ (T1 : MS) (y122_4 : Int32) (H : Heap) (locs : List Loc) (ls : Array Slot), k122 T1 y122_4 = some R → va_P D vwCl (wM G T1) H → va_D A (wM G T1) → va_S A s.heap H locs → lv_has ls 7 [(6, .int x74), (5, .int y52_5), (4, .int y122_4), (3, .int y52_3), (2, .int x37), (1, .int y30_1), (0, .ref (mA G 0))] → W p l e (headSpec ws_GM_gather ({ frames := 3, cells := 0, slots := 0, locals := 72 })).room s m ([.ref (mA G 0)] : List Value).toArray below meth c H locs 0 0 (MQ below (va_Qi (fun (r : Int32) (S' : MS) => (r, S') = R ∧ bl r) (wX D G A) A) ([.ref (mA G 0)] : List Value).toArray s 0 0 A) (F0 m 122 ls []) := by
                intro T122 y122_4 H locs ls hF hP hD hS hl
                rw [hk122] at hF
                refine lv_iload hx hb d_GM_gather_122 (lv_at hl 0 rfl) ?_
                refine vp_callSi (W.runS (As := [.int x74]) (rest := []) ⟨hx, hb, hml, hown, hts⟩ (c_GM_isLetter l x74) (cwS 1 hts (gS kw527 kw528 kw7 kw529) rfl rfl rfl (by decide +kernel) ⟨by show (1 : Nat) + 1 ≤ 3; omega, by show 8 + (1 + 11) + 22 ≤ 72; omega⟩) ⟨blindNM, fun U hU hW => ⟨rfl, trivial⟩⟩ rfl rfl hl.1 rfl (lv_room (Nat.le_of_ble_eq_true rfl)) d_GM_gather_124 ⟨Nat.zero_le _, Nat.zero_le _⟩) (fun x124 ex124 => ?_)
                obtain ⟨ex124, bx124⟩ := ex124
                have hF := lt_of hF ex124
                refine lv_if_eq (tgt := 147) hx hb d_GM_gather_127 (by decide) (fun c_127 => ?_) (fun c_127 => ?_)
                · have hF := ps_of c_127 hF
                  exact join147 T122 y122_4 _ _ ls hF hP hD hS (lv_sub hl [0, 1, 2, 3, 4, 5, 6] rfl)
                · have hF := ng_of c_127 hF
                  refine lv_aload_n hx hb d_GM_gather_130 rfl (lv_at hl 6 rfl) ?_
                  refine va_get (D := D) (ci := 6) (v := .ref (mA G 11)) (C := R_GM) (T := T_GM) (N := 30) hx hb hts (fun w h => List.mem_cons_of_mem _ (in_GM w h)) hown hK hP 0 (m_0 G T122) rfl 16 (by decide) (hts _ (List.mem_cons_of_mem _ kw460)) (fun _ h9 => h9) rfl d_GM_gather_131 ?_
                  refine lv_iload hx hb d_GM_gather_134 (lv_at hl 2 rfl) ?_
                  refine lv_dup2_11 hx hb d_GM_gather_136 rfl rfl ?_
                  obtain ⟨g137, hF⟩ := gd_of hF
                  refine va_iald (D := D) hx hb hK hP 11 0 (m_11 G T122) rfl (ix_in g137) d_GM_gather_137 ?_
                  refine lv_topi (fun x137 ex137 => ?_)
                  have hF := lt_of hF ex137
                  refine lv_iconst (v := 1) hx hb d_GM_gather_138 (by decide) ?_
                  refine lv_iload hx hb d_GM_gather_139 (lv_at hl 0 rfl) ?_
                  refine lv_bipush (v := 65) hx hb d_GM_gather_141 (by decide) ?_
                  refine lv_isub hx hb d_GM_gather_143 ?_
                  refine lv_topi (fun x143 ex143 => ?_)
                  have hF := lt_of hF ex143
                  refine lv_ishl hx hb d_GM_gather_144 ?_
                  refine lv_topi (fun x144 ex144 => ?_)
                  have hF := lt_of hF ex144
                  refine lv_ior hx hb d_GM_gather_145 ?_
                  refine lv_topi (fun x145 ex145 => ?_)
                  have hF := lt_of hF ex145
                  obtain ⟨g146, hF⟩ := gd_of hF
                  refine va_iastE (D := D) hx hb hK hP hD hS 11 0 (m_11 G T122) rfl (ix_in g146) (msta_11 G T122 y122_4.toNatClampNeg x145) d_GM_gather_146 (fun H locs hP hD hS => ?_)
                  obtain ⟨S146, eS146⟩ : ∃ y : MS, y = stM T122 11 y122_4.toNatClampNeg x145 := ⟨_, rfl⟩
                  rw [← eS146] at hP hD
                  have hF := lt_of hF eS146
                  exact join147 S146 y122_4 _ _ ls hF hP hD hS (lv_sub hl [0, 1, 2, 3, 4, 5, 6] rfl)
              refine lv_if_ne (tgt := 122) hx hb d_GM_gather_78 (by decide) (fun c_78 => ?_) (fun c_78 => ?_)
              · have hF := ng_of c_78 hF
                exact join122 S52 y52_4 _ _ ls hF hP hD hS (lv_sub hl [0, 1, 2, 3, 4, 5, 6] rfl)
              · have hF := ps_of c_78 hF
                refine lv_iload hx hb d_GM_gather_81 (lv_at hl 0 rfl) ?_
                refine vp_callSi (W.runS (As := [.int x74]) (rest := []) ⟨hx, hb, hml, hown, hts⟩ (c_GM_isLetter l x74) (cwS 1 hts (gS kw527 kw528 kw7 kw529) rfl rfl rfl (by decide +kernel) ⟨by show (1 : Nat) + 1 ≤ 3; omega, by show 8 + (1 + 11) + 22 ≤ 72; omega⟩) ⟨blindNM, fun U hU hW => ⟨rfl, trivial⟩⟩ rfl rfl hl.1 rfl (lv_room (Nat.le_of_ble_eq_true rfl)) d_GM_gather_83 ⟨Nat.zero_le _, Nat.zero_le _⟩) (fun x83 ex83 => ?_)
                obtain ⟨ex83, bx83⟩ := ex83
                have hF := lt_of hF ex83
                refine lv_if_eq (tgt := 122) hx hb d_GM_gather_86 (by decide) (fun c_86 => ?_) (fun c_86 => ?_)
                · have hF := ps_of c_86 hF
                  exact join122 S52 y52_4 _ _ ls hF hP hD hS (lv_sub hl [0, 1, 2, 3, 4, 5, 6] rfl)
                · have hF := ng_of c_86 hF
                  refine lv_iload hx hb d_GM_gather_89 (lv_at hl 0 rfl) ?_
                  refine lv_bipush (v := 65) hx hb d_GM_gather_91 (by decide) ?_
                  refine lv_isub hx hb d_GM_gather_93 ?_
                  refine lv_topi (fun x93 ex93 => ?_)
                  have hF := lt_of hF ex93
                  refine lv_istore (lv' := [(4, .int x93), (6, .int x74), (5, .int y52_5), (3, .int y52_3), (2, .int x37), (1, .int y30_1), (0, .ref (mA G 0))]) hx hb d_GM_gather_94 hl (by decide) rfl (fun ls hl => ?_)
                  refine lv_aload_n hx hb d_GM_gather_96 rfl (lv_at hl 6 rfl) ?_
                  refine va_get (D := D) (ci := 6) (v := .ref (mA G 10)) (C := R_GM) (T := T_GM) (N := 30) hx hb hts (fun w h => List.mem_cons_of_mem _ (in_GM w h)) hown hK hP 0 (m_0 G S52) rfl 15 (by decide) (hts _ (List.mem_cons_of_mem _ kw459)) (fun _ h9 => h9) rfl d_GM_gather_97 ?_
                  refine lv_iload hx hb d_GM_gather_100 (lv_at hl 0 rfl) ?_
                  obtain ⟨g102, hF⟩ := gd_of hF
                  refine va_iald (D := D) hx hb hK hP 10 0 (m_10 G S52) rfl (ix_in g102) d_GM_gather_102 ?_
                  refine lv_topi (fun x102 ex102 => ?_)
                  have hF := lt_of hF ex102
                  refine lv_if_lt (tgt := 108) hx hb d_GM_gather_103 (by decide) (fun c_103 => ?_) (fun c_103 => ?_)
                  · have hF := ps_of c_103 hF
                    refine lv_aload_n hx hb d_GM_gather_108 rfl (lv_at hl 6 rfl) ?_
                    refine va_get (D := D) (ci := 6) (v := .ref (mA G 10)) (C := R_GM) (T := T_GM) (N := 30) hx hb hts (fun w h => List.mem_cons_of_mem _ (in_GM w h)) hown hK hP 0 (m_0 G S52) rfl 15 (by decide) (hts _ (List.mem_cons_of_mem _ kw459)) (fun _ h9 => h9) rfl d_GM_gather_109 ?_
                    refine lv_iload hx hb d_GM_gather_112 (lv_at hl 0 rfl) ?_
                    refine lv_iload hx hb d_GM_gather_114 (lv_at hl 2 rfl) ?_
                    refine lv_iconst (v := 1) hx hb d_GM_gather_116 (by decide) ?_
                    refine lv_iadd hx hb d_GM_gather_117 ?_
                    refine lv_topi (fun x117 ex117 => ?_)
                    have hF := lt_of hF ex117
                    obtain ⟨g118, hF⟩ := gd_of hF
                    refine va_iastE (D := D) hx hb hK hP hD hS 10 0 (m_10 G S52) rfl (ix_in g118) (msta_10 G S52 x93.toNatClampNeg x117) d_GM_gather_118 (fun H locs hP hD hS => ?_)
                    obtain ⟨S118, eS118⟩ : ∃ y : MS, y = stM S52 10 x93.toNatClampNeg x117 := ⟨_, rfl⟩
                    rw [← eS118] at hP hD
                    have hF := lt_of hF eS118
                    refine lv_goto (tgt := 147) hx hb d_GM_gather_119 (by decide) ?_
                    exact join147 S118 x93 _ _ ls hF hP hD hS (lv_sub hl [1, 2, 0, 3, 4, 5, 6] rfl)
                  · have hF := ng_of c_103 hF
                    refine lv_iconst (v := 0) hx hb d_GM_gather_106 (by decide) ?_
                    exact W.zret (v := 0) hx hb hr (bl_nar (Or.inl rfl)) (fun t ht hW => ⟨⟨0, S52, rfl, ⟨Option.some.inj hF, (Or.inl rfl)⟩, by rw [ht]; exact hP, hD⟩, hS.F ht⟩) hS.2.2 d_GM_gather_107
        refine loop52 _ ?_ (fz 2000) S37 0 0 x49 _ _ ls hF hP hD hS hl
        intro S173 y173_4 y173_3 y173_5 H locs ls hF hP hD hS hl
        obtain ⟨x173, ex173⟩ : ∃ y : Int32, y = y30_1 + 1 := ⟨_, rfl⟩
        have hF := lt_of hF ex173
        refine lv_iinc (v := x173) (lv' := [(1, .int x173), (5, .int y173_5), (4, .int y173_4), (3, .int y173_3), (2, .int x37), (0, .ref (mA G 0))]) hx hb d_GM_gather_173 hl (k := 4) rfl (by rw [ex173]; rfl) (by decide) rfl (fun ls hl => ?_)
        refine lv_goto (tgt := 30) hx hb d_GM_gather_176 (by decide) ?_
        exact ih30 S173 x173 _ _ ls hF hP hD hS (lv_sub hl [0, 5] rfl)
  refine loop30 _ ?_ (fz 2000) S28 0 _ _ ls hF hP hD hS hl
  intro S179 y179_1 H locs ls hF hP hD hS hl
  refine lv_iconst (v := 1) hx hb d_GM_gather_179 (by decide) ?_
  exact W.zret (v := 1) hx hb hr (bl_nar (Or.inr rfl)) (fun t ht hW => ⟨⟨1, S179, rfl, ⟨Option.some.inj hF, (Or.inr rfl)⟩, by rw [ht]; exact hP, hD⟩, hS.F ht⟩) hS.2.2 d_GM_gather_180
set_option maxHeartbeats 4000000 in
set_option maxRecDepth 100000 in
theorem c_GM_link (l : Launch) (D : va_G) (G : MP) (S : MS) (sz : Nat) (R : (Int32 × MS)) (hF : f_GM_link S  = some R) : Met l y_GM_link ws_GM_link ({ frames := 4, cells := 0, slots := 0, locals := 98 }) (va_Pc [.ref (mA G 0)] (mPre D G S sz)) (va_Qi (fun (r : Int32) (S' : MS) => (r, S') = R) (wX D G (va_A (wM G S) sz)) (va_A (wM G S) sz)) 0 0 (va_A (wM G S) sz) := by
  refine Met.ofW (cc := b_GM_link) (maxL := 7) (ret := (some .int)) (by decide) rfl ?_
  intro p e s m args below meth c s₁ B hml hv
  obtain ⟨rfl, hsz, hP, hK, hD0⟩ := hv
  have hx := B.exec
  have hb := B.bytes
  have hr := B.returns
  have hts := atoms_spec (ws := ws_GM_link) B.pre
  have hown : s.vm.findClass R_GM = some m.cls := findClass_of_methodNamed B.named
  have hlocks := B.notSynchronized
  subst hsz
  have hD := hD0.self (sz := s.heap.size)
  generalize hAe : va_A (wM G S) s.heap.size = A at hD ⊢
  have hA : ∀ q : Nat, s.heap.size ≤ q → A q := fun q h => by rw [← hAe]; exact Or.inr h
  have hS : va_S A s.heap s.heap [] := va_S.rf
  have hl := lv_entry ([.ref (mA G 0)]) (n := 7) (Nat.le_of_ble_eq_true rfl)
  rw [lg_entry_eq]
  generalize (lg_sl ([.ref (mA G 0)]) ++ List.replicate (7 - (lg_sl ([.ref (mA G 0)])).length) Slot.unset).toArray = ls at hl ⊢
  have hl : lv_has ls 7 [(0, .ref (mA G 0))] := hl
  unfold f_GM_link at hF
  refine lv_aload_n hx hb d_GM_link_0 rfl (lv_at hl 0 rfl) ?_
  refine va_get (D := D) (ci := 6) (v := .ref (mA G 3)) (C := R_GM) (T := T_GM) (N := 30) hx hb hts (fun w h => List.mem_cons_of_mem _ (in_GM w h)) hown hK hP 0 (m_0 G S) rfl 2 (by decide) (hts _ (List.mem_cons_of_mem _ kw446)) (fun _ h9 => h9) rfl d_GM_link_1 ?_
  refine lv_iconst (v := 0) hx hb d_GM_link_4 (by decide) ?_
  obtain ⟨g5, hF⟩ := gd_of hF
  refine va_zald (D := D) hx hb hK hP 3 1 (m_3 G S) rfl (ix_in g5) d_GM_link_5 ?_
  refine lv_topi (fun x5 ex5 => ?_)
  have hF := lt_of hF ex5
  obtain ⟨k27, hk27, hF⟩ := jn_of hF
  have join27 : ∀ (T1 : MS) (H : Heap) (locs : List Loc) (ls : Array Slot), k27 T1 = some R → va_P D vwCl (wM G T1) H → va_D A (wM G T1) → va_S A s.heap H locs → lv_has ls 7 [(0, .ref (mA G 0))] → W p l e (headSpec ws_GM_link ({ frames := 4, cells := 0, slots := 0, locals := 98 })).room s m ([.ref (mA G 0)] : List Value).toArray below meth c H locs 0 0 (MQ below (va_Qi (fun (r : Int32) (S' : MS) => (r, S') = R) (wX D G A) A) ([.ref (mA G 0)] : List Value).toArray s 0 0 A) (F0 m 27 ls []) := by
    intro T27 H locs ls hF hP hD hS hl
    rw [hk27] at hF
    refine lv_iconst (v := (-1)) hx hb d_GM_link_27 (by decide) ?_
    exact W.iret (v := (-1)) hx hb hr (fun t ht hW => ⟨⟨(-1), T27, rfl, Option.some.inj hF, by rw [ht]; exact hP, hD⟩, hS.F ht⟩) hS.2.2 d_GM_link_28
  refine lv_if_eq (tgt := 27) hx hb d_GM_link_6 (by decide) (fun c_6 => ?_) (fun c_6 => ?_)
  · have hF := ps_of c_6 hF
    exact join27 S _ _ ls hF hP hD hS (lv_sub hl [0] rfl)
  · have hF := ng_of c_6 hF
    refine lv_aload_n hx hb d_GM_link_9 rfl (lv_at hl 0 rfl) ?_
    refine va_get (D := D) (ci := 6) (v := .ref (mA G 3)) (C := R_GM) (T := T_GM) (N := 30) hx hb hts (fun w h => List.mem_cons_of_mem _ (in_GM w h)) hown hK hP 0 (m_0 G S) rfl 2 (by decide) (hts _ (List.mem_cons_of_mem _ kw446)) (fun _ h9 => h9) rfl d_GM_link_10 ?_
    refine lv_iconst (v := 1) hx hb d_GM_link_13 (by decide) ?_
    obtain ⟨g14, hF⟩ := gd_of hF
    refine va_zald (D := D) hx hb hK hP 3 1 (m_3 G S) rfl (ix_in g14) d_GM_link_14 ?_
    refine lv_topi (fun x14 ex14 => ?_)
    have hF := lt_of hF ex14
    refine lv_if_eq (tgt := 27) hx hb d_GM_link_15 (by decide) (fun c_15 => ?_) (fun c_15 => ?_)
    · have hF := ps_of c_15 hF
      exact join27 S _ _ ls hF hP hD hS (lv_sub hl [0] rfl)
    · have hF := ng_of c_15 hF
      refine lv_aload_n hx hb d_GM_link_18 rfl (lv_at hl 0 rfl) ?_
      refine va_get (D := D) (ci := 6) (v := .ref (mA G 3)) (C := R_GM) (T := T_GM) (N := 30) hx hb hts (fun w h => List.mem_cons_of_mem _ (in_GM w h)) hown hK hP 0 (m_0 G S) rfl 2 (by decide) (hts _ (List.mem_cons_of_mem _ kw446)) (fun _ h9 => h9) rfl d_GM_link_19 ?_
      refine lv_iconst (v := 2) hx hb d_GM_link_22 (by decide) ?_
      obtain ⟨g23, hF⟩ := gd_of hF
      refine va_zald (D := D) hx hb hK hP 3 1 (m_3 G S) rfl (ix_in g23) d_GM_link_23 ?_
      refine lv_topi (fun x23 ex23 => ?_)
      have hF := lt_of hF ex23
      refine lv_if_ne (tgt := 29) hx hb d_GM_link_24 (by decide) (fun c_24 => ?_) (fun c_24 => ?_)
      · have hF := ng_of c_24 hF
        refine lv_aload_n hx hb d_GM_link_29 rfl (lv_at hl 0 rfl) ?_
        obtain ⟨S30, hq30, hF⟩ := bd_of hF
        refine dq_v (va_runV (As := []) (rest := []) ⟨hx, hb, hml, hown, hts⟩ (c_GM_unlink l D G S _  S30 hq30) (cwV 0 hts (gV kw513 kw514 kw652 kw7 kw515) rfl rfl rfl (by decide +kernel) ⟨by show (0 : Nat) + 1 ≤ 4; omega, by show 8 + (1 + 11) + 0 ≤ 98; omega⟩) ⟨blindM, va_recv (ci := 6) (q0 := 0) hK hP rfl (m_0 G S), fun U hU hW => ⟨rfl, mPre_of hP hK hD hU hW⟩⟩ rfl rfl hl.1 rfl (lv_room (Nat.le_of_ble_eq_true rfl)) d_GM_link_30 ⟨Nat.zero_le _, Nat.zero_le _⟩) hD hS hA (fun rS30 H locs hw hP hD hS => ?_)
        have hw := hw.symm
        subst hw
        refine lv_aload_n hx hb d_GM_link_33 rfl (lv_at hl 0 rfl) ?_
        obtain ⟨x34, S34, hq34, hF⟩ := bd2_of hF
        refine dq_i (va_runV (As := []) (rest := []) ⟨hx, hb, hml, hown, hts⟩ (c_GM_gather l D G S30 _  (x34, S34) hq34) (cwV 0 hts (gV kw566 kw567 kw661 kw7 kw568) rfl rfl rfl (by decide +kernel) ⟨by show (3 : Nat) + 1 ≤ 4; omega, by show 8 + (7 + 11) + 72 ≤ 98; omega⟩) ⟨blindM, va_recv (ci := 6) (q0 := 0) hK hP rfl (m_0 G S30), fun U hU hW => ⟨rfl, mPre_of hP hK hD hU hW⟩⟩ rfl rfl hl.1 rfl (lv_room (Nat.le_of_ble_eq_true rfl)) d_GM_link_34 ⟨Nat.zero_le _, Nat.zero_le _⟩) hD hS hA (fun rx34 rS34 H locs hw hP hD hS => ?_)
        obtain ⟨hw, bx34⟩ := hw
        obtain ⟨h1, h2⟩ := Prod.mk.inj hw
        have h1 := h1.symm
        have h2 := h2.symm
        subst h1
        subst h2
        refine lv_if_ne (tgt := 43) hx hb d_GM_link_37 (by decide) (fun c_37 => ?_) (fun c_37 => ?_)
        · have hF := ng_of c_37 hF
          refine lv_iconst (v := 0) hx hb d_GM_link_43 (by decide) ?_
          refine lv_istore_n (lv' := [(1, .int 0), (0, .ref (mA G 0))]) hx hb d_GM_link_44 rfl hl (by decide) rfl (fun ls hl => ?_)
          refine lv_iconst (v := 0) hx hb d_GM_link_45 (by decide) ?_
          refine lv_istore_n (lv' := [(2, .int 0), (1, .int 0), (0, .ref (mA G 0))]) hx hb d_GM_link_46 rfl hl (by decide) rfl (fun ls hl => ?_)
          refine lv_iconst (v := 0) hx hb d_GM_link_47 (by decide) ?_
          refine lv_istore_n (lv' := [(3, .int 0), (2, .int 0), (1, .int 0), (0, .ref (mA G 0))]) hx hb d_GM_link_48 rfl hl (by decide) rfl (fun ls hl => ?_)
          refine lv_iconst (v := 0) hx hb d_GM_link_49 (by decide) ?_
          refine lv_istore (lv' := [(4, .int 0), (3, .int 0), (2, .int 0), (1, .int 0), (0, .ref (mA G 0))]) hx hb d_GM_link_50 hl (by decide) rfl (fun ls hl => ?_)
          have loop52 : ∀ (K52 : MS → Int32 → Int32 → Int32 → Int32 → Option (Int32 × MS)) (hexit : ∀ (S1 : MS) (y52_1 : Int32) (y52_3 : Int32) (y52_2 : Int32) (y52_4 : Int32) (H : Heap) (locs : List Loc) (ls : Array Slot), K52 S1 y52_1 y52_3 y52_2 y52_4 = some R → va_P D vwCl (wM G S1) H → va_D A (wM G S1) → va_S A s.heap H locs → lv_has ls 7 [(4, .int y52_4), (3, .int y52_3), (2, .int y52_2), (1, .int y52_1), (0, .ref (mA G 0))] → W p l e (headSpec ws_GM_link ({ frames := 4, cells := 0, slots := 0, locals := 98 })).room s m ([.ref (mA G 0)] : List Value).toArray below meth c H locs 0 0 (MQ below (va_Qi (fun (r : Int32) (S' : MS) => (r, S') = R) (wX D G A) A) ([.ref (mA G 0)] : List Value).toArray s 0 0 A) (F0 m 95 ls [])) (n : Nat) (S1 : MS) (y52_1 : Int32) (y52_3 : Int32) (y52_2 : Int32) (y52_4 : Int32) (H : Heap) (locs : List Loc) (ls : Array Slot), q_GM_link_52 n S1 y52_1 y52_3 y52_2 y52_4 K52 = some R → va_P D vwCl (wM G S1) H → va_D A (wM G S1) → va_S A s.heap H locs → lv_has ls 7 [(4, .int y52_4), (3, .int y52_3), (2, .int y52_2), (1, .int y52_1), (0, .ref (mA G 0))] → W p l e (headSpec ws_GM_link ({ frames := 4, cells := 0, slots := 0, locals := 98 })).room s m ([.ref (mA G 0)] : List Value).toArray below meth c H locs 0 0 (MQ below (va_Qi (fun (r : Int32) (S' : MS) => (r, S') = R) (wX D G A) A) ([.ref (mA G 0)] : List Value).toArray s 0 0 A) (F0 m 52 ls []) := by
            intro K52 hexit52 n
            induction n with
            | zero => intro S1 y52_1 y52_3 y52_2 y52_4 H locs ls hF; exact nomatch (show (none : Option (Int32 × MS)) = some R from hF)
            | succ n ih52 =>
              intro S52 y52_1 y52_3 y52_2 y52_4 H locs ls hF hP hD hS hl
              rw [q_GM_link_52] at hF
              refine lv_iload hx hb d_GM_link_52 (lv_at hl 0 rfl) ?_
              refine lv_bipush (v := 26) hx hb d_GM_link_54 (by decide) ?_
              refine lv_icmp_ge (tgt := 95) hx hb d_GM_link_56 (by decide) (fun c_56 => ?_) (fun c_56 => ?_)
              · have hF := ps_of c_56 hF
                exact hexit52 S52 y52_1 y52_3 y52_2 y52_4 _ _ ls hF hP hD hS (lv_sub hl [0, 1, 2, 3, 4] rfl)
              · have hF := ng_of c_56 hF
                refine lv_aload_n hx hb d_GM_link_59 rfl (lv_at hl 4 rfl) ?_
                refine va_get (D := D) (ci := 6) (v := .ref (mA G 10)) (C := R_GM) (T := T_GM) (N := 30) hx hb hts (fun w h => List.mem_cons_of_mem _ (in_GM w h)) hown hK hP 0 (m_0 G S52) rfl 15 (by decide) (hts _ (List.mem_cons_of_mem _ kw459)) (fun _ h9 => h9) rfl d_GM_link_60 ?_
                refine lv_iload hx hb d_GM_link_63 (lv_at hl 0 rfl) ?_
                obtain ⟨g65, hF⟩ := gd_of hF
                refine va_iald (D := D) hx hb hK hP 10 0 (m_10 G S52) rfl (ix_in g65) d_GM_link_65 ?_
                refine lv_topi (fun x65 ex65 => ?_)
                have hF := lt_of hF ex65
                obtain ⟨k79, hk79, hF⟩ := jn_of hF
                have join79 : ∀ (T1 : MS) (y79_1 : Int32) (y79_3 : Int32) (H : Heap) (locs : List Loc) (ls : Array Slot), k79 T1 y79_1 y79_3 = some R → va_P D vwCl (wM G T1) H → va_D A (wM G T1) → va_S A s.heap H locs → lv_has ls 7 [(4, .int y52_4), (3, .int y79_3), (2, .int y52_2), (1, .int y79_1), (0, .ref (mA G 0))] → W p l e (headSpec ws_GM_link ({ frames := 4, cells := 0, slots := 0, locals := 98 })).room s m ([.ref (mA G 0)] : List Value).toArray below meth c H locs 0 0 (MQ below (va_Qi (fun (r : Int32) (S' : MS) => (r, S') = R) (wX D G A) A) ([.ref (mA G 0)] : List Value).toArray s 0 0 A) (F0 m 79 ls []) := by
                  intro T79 y79_1 y79_3 H locs ls hF hP hD hS hl
                  rw [hk79] at hF
                  refine lv_iload_n hx hb d_GM_link_79 rfl (lv_at hl 2 rfl) ?_
                  refine lv_aload_n hx hb d_GM_link_80 rfl (lv_at hl 4 rfl) ?_
                  refine va_get (D := D) (ci := 6) (v := .ref (mA G 11)) (C := R_GM) (T := T_GM) (N := 30) hx hb hts (fun w h => List.mem_cons_of_mem _ (in_GM w h)) hown hK hP 0 (m_0 G T79) rfl 16 (by decide) (hts _ (List.mem_cons_of_mem _ kw460)) (fun _ h9 => h9) rfl d_GM_link_81 ?_
                  refine lv_iload hx hb d_GM_link_84 (lv_at hl 0 rfl) ?_
                  obtain ⟨g86, hF⟩ := gd_of hF
                  refine va_iald (D := D) hx hb hK hP 11 0 (m_11 G T79) rfl (ix_in g86) d_GM_link_86 ?_
                  refine lv_topi (fun x86 ex86 => ?_)
                  have hF := lt_of hF ex86
                  refine lv_ior hx hb d_GM_link_87 ?_
                  refine lv_topi (fun x87 ex87 => ?_)
                  have hF := lt_of hF ex87
                  refine lv_istore_n (lv' := [(2, .int x87), (4, .int y52_4), (3, .int y79_3), (1, .int y79_1), (0, .ref (mA G 0))]) hx hb d_GM_link_88 rfl hl (by decide) rfl (fun ls hl => ?_)
                  obtain ⟨x89, ex89⟩ : ∃ y : Int32, y = y52_4 + 1 := ⟨_, rfl⟩
                  have hF := lt_of hF ex89
                  refine lv_iinc (v := x89) (lv' := [(4, .int x89), (2, .int x87), (3, .int y79_3), (1, .int y79_1), (0, .ref (mA G 0))]) hx hb d_GM_link_89 hl (k := 1) rfl (by rw [ex89]; rfl) (by decide) rfl (fun ls hl => ?_)
                  refine lv_goto (tgt := 52) hx hb d_GM_link_92 (by decide) ?_
                  exact ih52 T79 y79_1 y79_3 x87 x89 _ _ ls hF hP hD hS (lv_sub hl [0, 2, 1, 3, 4] rfl)
                refine lv_if_lt (tgt := 79) hx hb d_GM_link_66 (by decide) (fun c_66 => ?_) (fun c_66 => ?_)
                · have hF := ps_of c_66 hF
                  exact join79 S52 y52_1 y52_3 _ _ ls hF hP hD hS (lv_sub hl [0, 1, 2, 3, 4] rfl)
                · have hF := ng_of c_66 hF
                  refine lv_iload_n hx hb d_GM_link_69 rfl (lv_at hl 3 rfl) ?_
                  refine lv_iconst (v := 1) hx hb d_GM_link_70 (by decide) ?_
                  refine lv_iload hx hb d_GM_link_71 (lv_at hl 0 rfl) ?_
                  refine lv_ishl hx hb d_GM_link_73 ?_
                  refine lv_topi (fun x73 ex73 => ?_)
                  have hF := lt_of hF ex73
                  refine lv_ior hx hb d_GM_link_74 ?_
                  refine lv_topi (fun x74 ex74 => ?_)
                  have hF := lt_of hF ex74
                  refine lv_istore_n (lv' := [(1, .int x74), (4, .int y52_4), (3, .int y52_3), (2, .int y52_2), (0, .ref (mA G 0))]) hx hb d_GM_link_75 rfl hl (by decide) rfl (fun ls hl => ?_)
                  obtain ⟨x76, ex76⟩ : ∃ y : Int32, y = y52_3 + 1 := ⟨_, rfl⟩
                  have hF := lt_of hF ex76
                  refine lv_iinc (v := x76) (lv' := [(3, .int x76), (1, .int x74), (4, .int y52_4), (2, .int y52_2), (0, .ref (mA G 0))]) hx hb d_GM_link_76 hl (k := 2) rfl (by rw [ex76]; rfl) (by decide) rfl (fun ls hl => ?_)
                  exact join79 S52 x74 x76 _ _ ls hF hP hD hS (lv_sub hl [2, 0, 3, 1, 4] rfl)
          refine loop52 _ ?_ (fz 2000) S34 0 0 0 0 _ _ ls hF hP hD hS hl
          intro S95 y95_1 y95_3 y95_2 y95_4 H locs ls hF hP hD hS hl
          refine lv_aload_n hx hb d_GM_link_95 rfl (lv_at hl 4 rfl) ?_
          refine va_get (D := D) (ci := 6) (v := .ref (mA G 10)) (C := R_GM) (T := T_GM) (N := 30) hx hb hts (fun w h => List.mem_cons_of_mem _ (in_GM w h)) hown hK hP 0 (m_0 G S95) rfl 15 (by decide) (hts _ (List.mem_cons_of_mem _ kw459)) (fun _ h9 => h9) rfl d_GM_link_96 ?_
          refine lv_bipush (v := 12) hx hb d_GM_link_99 (by decide) ?_
          obtain ⟨g101, hF⟩ := gd_of hF
          refine va_iald (D := D) hx hb hK hP 10 0 (m_10 G S95) rfl (ix_in g101) d_GM_link_101 ?_
          refine lv_topi (fun x101 ex101 => ?_)
          have hF := lt_of hF ex101
          obtain ⟨k113, hk113, hF⟩ := jn_of hF
          have join113 : ∀ (T1 : MS) (H : Heap) (locs : List Loc) (ls : Array Slot), k113 T1 = some R → va_P D vwCl (wM G T1) H → va_D A (wM G T1) → va_S A s.heap H locs → lv_has ls 7 [(4, .int y95_4), (3, .int y95_3), (2, .int y95_2), (1, .int y95_1), (0, .ref (mA G 0))] → W p l e (headSpec ws_GM_link ({ frames := 4, cells := 0, slots := 0, locals := 98 })).room s m ([.ref (mA G 0)] : List Value).toArray below meth c H locs 0 0 (MQ below (va_Qi (fun (r : Int32) (S' : MS) => (r, S') = R) (wX D G A) A) ([.ref (mA G 0)] : List Value).toArray s 0 0 A) (F0 m 113 ls []) := by
            intro T113 H locs ls hF hP hD hS hl
            rw [hk113] at hF
            refine lv_bipush (v := (-4)) hx hb d_GM_link_113 (by decide) ?_
            exact W.iret (v := (-4)) hx hb hr (fun t ht hW => ⟨⟨(-4), T113, rfl, Option.some.inj hF, by rw [ht]; exact hP, hD⟩, hS.F ht⟩) hS.2.2 d_GM_link_115
          refine lv_if_lt (tgt := 113) hx hb d_GM_link_102 (by decide) (fun c_102 => ?_) (fun c_102 => ?_)
          · have hF := ps_of c_102 hF
            exact join113 S95 _ _ ls hF hP hD hS (lv_sub hl [0, 1, 2, 3, 4] rfl)
          · have hF := ng_of c_102 hF
            refine lv_iload_n hx hb d_GM_link_105 rfl (lv_at hl 2 rfl) ?_
            refine lv_iload_n hx hb d_GM_link_106 rfl (lv_at hl 3 rfl) ?_
            refine lv_iconst (v := (-1)) hx hb d_GM_link_107 (by decide) ?_
            refine lv_ixor hx hb d_GM_link_108 ?_
            refine lv_topi (fun x108 ex108 => ?_)
            have hF := lt_of hF ex108
            refine lv_iand hx hb d_GM_link_109 ?_
            refine lv_topi (fun x109 ex109 => ?_)
            have hF := lt_of hF ex109
            refine lv_if_eq (tgt := 116) hx hb d_GM_link_110 (by decide) (fun c_110 => ?_) (fun c_110 => ?_)
            · have hF := ps_of c_110 hF
              refine lv_iconst (v := 0) hx hb d_GM_link_116 (by decide) ?_
              refine lv_istore (lv' := [(4, .int 0), (3, .int y95_3), (2, .int y95_2), (1, .int y95_1), (0, .ref (mA G 0))]) hx hb d_GM_link_117 hl (by decide) rfl (fun ls hl => ?_)
              have loop119 : ∀ (K119 : MS → Int32 → Option (Int32 × MS)) (hexit : ∀ (S1 : MS) (y119_4 : Int32) (H : Heap) (locs : List Loc) (ls : Array Slot), K119 S1 y119_4 = some R → va_P D vwCl (wM G S1) H → va_D A (wM G S1) → va_S A s.heap H locs → lv_has ls 7 [(4, .int y119_4), (3, .int y95_3), (2, .int y95_2), (1, .int y95_1), (0, .ref (mA G 0))] → W p l e (headSpec ws_GM_link ({ frames := 4, cells := 0, slots := 0, locals := 98 })).room s m ([.ref (mA G 0)] : List Value).toArray below meth c H locs 0 0 (MQ below (va_Qi (fun (r : Int32) (S' : MS) => (r, S') = R) (wX D G A) A) ([.ref (mA G 0)] : List Value).toArray s 0 0 A) (F0 m 197 ls [])) (n : Nat) (S1 : MS) (y119_4 : Int32) (H : Heap) (locs : List Loc) (ls : Array Slot), q_GM_link_119 n S1 y95_3 y95_2 y95_1 y119_4 K119 = some R → va_P D vwCl (wM G S1) H → va_D A (wM G S1) → va_S A s.heap H locs → lv_has ls 7 [(4, .int y119_4), (3, .int y95_3), (2, .int y95_2), (1, .int y95_1), (0, .ref (mA G 0))] → W p l e (headSpec ws_GM_link ({ frames := 4, cells := 0, slots := 0, locals := 98 })).room s m ([.ref (mA G 0)] : List Value).toArray below meth c H locs 0 0 (MQ below (va_Qi (fun (r : Int32) (S' : MS) => (r, S') = R) (wX D G A) A) ([.ref (mA G 0)] : List Value).toArray s 0 0 A) (F0 m 119 ls []) := by
                intro K119 hexit119 n
                induction n with
                | zero => intro S1 y119_4 H locs ls hF; exact nomatch (show (none : Option (Int32 × MS)) = some R from hF)
                | succ n ih119 =>
                  intro S119 y119_4 H locs ls hF hP hD hS hl
                  rw [q_GM_link_119] at hF
                  refine lv_iload hx hb d_GM_link_119 (lv_at hl 0 rfl) ?_
                  refine lv_bipush (v := 26) hx hb d_GM_link_121 (by decide) ?_
                  refine lv_icmp_ge (tgt := 197) hx hb d_GM_link_123 (by decide) (fun c_123 => ?_) (fun c_123 => ?_)
                  · have hF := ps_of c_123 hF
                    exact hexit119 S119 y119_4 _ _ ls hF hP hD hS (lv_sub hl [0, 1, 2, 3, 4] rfl)
                  · have hF := ng_of c_123 hF
                    refine lv_iconst (v := 0) hx hb d_GM_link_126 (by decide) ?_
                    refine lv_istore (lv' := [(5, .int 0), (4, .int y119_4), (3, .int y95_3), (2, .int y95_2), (1, .int y95_1), (0, .ref (mA G 0))]) hx hb d_GM_link_127 hl (by decide) rfl (fun ls hl => ?_)
                    have loop129 : ∀ (K129 : MS → Int32 → Option (Int32 × MS)) (hexit : ∀ (S1 : MS) (y129_5 : Int32) (H : Heap) (locs : List Loc) (ls : Array Slot), K129 S1 y129_5 = some R → va_P D vwCl (wM G S1) H → va_D A (wM G S1) → va_S A s.heap H locs → lv_has ls 7 [(5, .int y129_5), (4, .int y119_4), (3, .int y95_3), (2, .int y95_2), (1, .int y95_1), (0, .ref (mA G 0))] → W p l e (headSpec ws_GM_link ({ frames := 4, cells := 0, slots := 0, locals := 98 })).room s m ([.ref (mA G 0)] : List Value).toArray below meth c H locs 0 0 (MQ below (va_Qi (fun (r : Int32) (S' : MS) => (r, S') = R) (wX D G A) A) ([.ref (mA G 0)] : List Value).toArray s 0 0 A) (F0 m 191 ls [])) (n : Nat) (S1 : MS) (y129_5 : Int32) (H : Heap) (locs : List Loc) (ls : Array Slot), q_GM_link_129 n S1 y119_4 y95_3 y95_2 y95_1 y129_5 K129 = some R → va_P D vwCl (wM G S1) H → va_D A (wM G S1) → va_S A s.heap H locs → lv_has ls 7 [(5, .int y129_5), (4, .int y119_4), (3, .int y95_3), (2, .int y95_2), (1, .int y95_1), (0, .ref (mA G 0))] → W p l e (headSpec ws_GM_link ({ frames := 4, cells := 0, slots := 0, locals := 98 })).room s m ([.ref (mA G 0)] : List Value).toArray below meth c H locs 0 0 (MQ below (va_Qi (fun (r : Int32) (S' : MS) => (r, S') = R) (wX D G A) A) ([.ref (mA G 0)] : List Value).toArray s 0 0 A) (F0 m 129 ls []) := by
                      intro K129 hexit129 n
                      induction n with
                      | zero => intro S1 y129_5 H locs ls hF; exact nomatch (show (none : Option (Int32 × MS)) = some R from hF)
                      | succ n ih129 =>
                        intro S129 y129_5 H locs ls hF hP hD hS hl
                        rw [q_GM_link_129] at hF
                        refine lv_iload hx hb d_GM_link_129 (lv_at hl 0 rfl) ?_
                        refine lv_bipush (v := 26) hx hb d_GM_link_131 (by decide) ?_
                        refine lv_icmp_ge (tgt := 191) hx hb d_GM_link_133 (by decide) (fun c_133 => ?_) (fun c_133 => ?_)
                        · have hF := ps_of c_133 hF
                          exact hexit129 S129 y129_5 _ _ ls hF hP hD hS (lv_sub hl [0, 1, 2, 3, 4, 5] rfl)
                        · have hF := ng_of c_133 hF
                          refine lv_iconst (v := 0) hx hb d_GM_link_136 (by decide) ?_
                          refine lv_istore (lv' := [(6, .int 0), (5, .int y129_5), (4, .int y119_4), (3, .int y95_3), (2, .int y95_2), (1, .int y95_1), (0, .ref (mA G 0))]) hx hb d_GM_link_137 hl (by decide) rfl (fun ls hl => ?_)
                          have loop139 : ∀ (K139 : MS → Int32 → Option (Int32 × MS)) (hexit : ∀ (S1 : MS) (y139_6 : Int32) (H : Heap) (locs : List Loc) (ls : Array Slot), K139 S1 y139_6 = some R → va_P D vwCl (wM G S1) H → va_D A (wM G S1) → va_S A s.heap H locs → lv_has ls 7 [(6, .int y139_6), (5, .int y129_5), (4, .int y119_4), (3, .int y95_3), (2, .int y95_2), (1, .int y95_1), (0, .ref (mA G 0))] → W p l e (headSpec ws_GM_link ({ frames := 4, cells := 0, slots := 0, locals := 98 })).room s m ([.ref (mA G 0)] : List Value).toArray below meth c H locs 0 0 (MQ below (va_Qi (fun (r : Int32) (S' : MS) => (r, S') = R) (wX D G A) A) ([.ref (mA G 0)] : List Value).toArray s 0 0 A) (F0 m 185 ls [])) (n : Nat) (S1 : MS) (y139_6 : Int32) (H : Heap) (locs : List Loc) (ls : Array Slot), q_GM_link_139 n S1 y129_5 y119_4 y95_3 y95_2 y95_1 y139_6 K139 = some R → va_P D vwCl (wM G S1) H → va_D A (wM G S1) → va_S A s.heap H locs → lv_has ls 7 [(6, .int y139_6), (5, .int y129_5), (4, .int y119_4), (3, .int y95_3), (2, .int y95_2), (1, .int y95_1), (0, .ref (mA G 0))] → W p l e (headSpec ws_GM_link ({ frames := 4, cells := 0, slots := 0, locals := 98 })).room s m ([.ref (mA G 0)] : List Value).toArray below meth c H locs 0 0 (MQ below (va_Qi (fun (r : Int32) (S' : MS) => (r, S') = R) (wX D G A) A) ([.ref (mA G 0)] : List Value).toArray s 0 0 A) (F0 m 139 ls []) := by
                            intro K139 hexit139 n
                            induction n with
                            | zero => intro S1 y139_6 H locs ls hF; exact nomatch (show (none : Option (Int32 × MS)) = some R from hF)
                            | succ n ih139 =>
                              intro S139 y139_6 H locs ls hF hP hD hS hl
                              rw [q_GM_link_139] at hF
                              refine lv_iload hx hb d_GM_link_139 (lv_at hl 0 rfl) ?_
                              refine lv_bipush (v := 26) hx hb d_GM_link_141 (by decide) ?_
                              refine lv_icmp_ge (tgt := 185) hx hb d_GM_link_143 (by decide) (fun c_143 => ?_) (fun c_143 => ?_)
                              · have hF := ps_of c_143 hF
                                exact hexit139 S139 y139_6 _ _ ls hF hP hD hS (lv_sub hl [0, 1, 2, 3, 4, 5, 6] rfl)
                              · have hF := ng_of c_143 hF
                                refine lv_aload_n hx hb d_GM_link_146 rfl (lv_at hl 6 rfl) ?_
                                refine va_get (D := D) (ci := 6) (v := .ref (mA G 11)) (C := R_GM) (T := T_GM) (N := 30) hx hb hts (fun w h => List.mem_cons_of_mem _ (in_GM w h)) hown hK hP 0 (m_0 G S139) rfl 16 (by decide) (hts _ (List.mem_cons_of_mem _ kw460)) (fun _ h9 => h9) rfl d_GM_link_147 ?_
                                refine lv_iload hx hb d_GM_link_150 (lv_at hl 1 rfl) ?_
                                obtain ⟨g152, hF⟩ := gd_of hF
                                refine va_iald (D := D) hx hb hK hP 11 0 (m_11 G S139) rfl (ix_in g152) d_GM_link_152 ?_
                                refine lv_topi (fun x152 ex152 => ?_)
                                have hF := lt_of hF ex152
                                refine lv_iload hx hb d_GM_link_153 (lv_at hl 0 rfl) ?_
                                refine lv_ishr hx hb d_GM_link_155 ?_
                                refine lv_topi (fun x155 ex155 => ?_)
                                have hF := lt_of hF ex155
                                refine lv_iconst (v := 1) hx hb d_GM_link_156 (by decide) ?_
                                refine lv_iand hx hb d_GM_link_157 ?_
                                refine lv_topi (fun x157 ex157 => ?_)
                                have hF := lt_of hF ex157
                                refine lv_iconst (v := 1) hx hb d_GM_link_158 (by decide) ?_
                                obtain ⟨k179, hk179, hF⟩ := jn_of hF
                                have join179 : ∀ (T1 : MS) (H : Heap) (locs : List Loc) (ls : Array Slot), k179 T1 = some R → va_P D vwCl (wM G T1) H → va_D A (wM G T1) → va_S A s.heap H locs → lv_has ls 7 [(6, .int y139_6), (5, .int y129_5), (4, .int y119_4), (3, .int y95_3), (2, .int y95_2), (1, .int y95_1), (0, .ref (mA G 0))] → W p l e (headSpec ws_GM_link ({ frames := 4, cells := 0, slots := 0, locals := 98 })).room s m ([.ref (mA G 0)] : List Value).toArray below meth c H locs 0 0 (MQ below (va_Qi (fun (r : Int32) (S' : MS) => (r, S') = R) (wX D G A) A) ([.ref (mA G 0)] : List Value).toArray s 0 0 A) (F0 m 179 ls []) := by
                                  intro T179 H locs ls hF hP hD hS hl
                                  rw [hk179] at hF
                                  obtain ⟨x179, ex179⟩ : ∃ y : Int32, y = y139_6 + 1 := ⟨_, rfl⟩
                                  have hF := lt_of hF ex179
                                  refine lv_iinc (v := x179) (lv' := [(6, .int x179), (5, .int y129_5), (4, .int y119_4), (3, .int y95_3), (2, .int y95_2), (1, .int y95_1), (0, .ref (mA G 0))]) hx hb d_GM_link_179 hl (k := 0) rfl (by rw [ex179]; rfl) (by decide) rfl (fun ls hl => ?_)
                                  refine lv_goto (tgt := 139) hx hb d_GM_link_182 (by decide) ?_
                                  exact ih139 T179 x179 _ _ ls hF hP hD hS (lv_sub hl [0, 1, 2, 3, 4, 5, 6] rfl)
                                refine lv_icmp_ne (tgt := 179) hx hb d_GM_link_159 (by decide) (fun c_159 => ?_) (fun c_159 => ?_)
                                · have hF := ng_of c_159 hF
                                  exact join179 S139 _ _ ls hF hP hD hS (lv_sub hl [0, 1, 2, 3, 4, 5, 6] rfl)
                                · have hF := ps_of c_159 hF
                                  refine lv_aload_n hx hb d_GM_link_162 rfl (lv_at hl 6 rfl) ?_
                                  refine va_get (D := D) (ci := 6) (v := .ref (mA G 11)) (C := R_GM) (T := T_GM) (N := 30) hx hb hts (fun w h => List.mem_cons_of_mem _ (in_GM w h)) hown hK hP 0 (m_0 G S139) rfl 16 (by decide) (hts _ (List.mem_cons_of_mem _ kw460)) (fun _ h9 => h9) rfl d_GM_link_163 ?_
                                  refine lv_iload hx hb d_GM_link_166 (lv_at hl 1 rfl) ?_
                                  refine lv_dup2_11 hx hb d_GM_link_168 rfl rfl ?_
                                  obtain ⟨g169, hF⟩ := gd_of hF
                                  refine va_iald (D := D) hx hb hK hP 11 0 (m_11 G S139) rfl (ix_in g169) d_GM_link_169 ?_
                                  refine lv_topi (fun x169 ex169 => ?_)
                                  have hF := lt_of hF ex169
                                  refine lv_aload_n hx hb d_GM_link_170 rfl (lv_at hl 6 rfl) ?_
                                  refine va_get (D := D) (ci := 6) (v := .ref (mA G 11)) (C := R_GM) (T := T_GM) (N := 30) hx hb hts (fun w h => List.mem_cons_of_mem _ (in_GM w h)) hown hK hP 0 (m_0 G S139) rfl 16 (by decide) (hts _ (List.mem_cons_of_mem _ kw460)) (fun _ h9 => h9) rfl d_GM_link_171 ?_
                                  refine lv_iload hx hb d_GM_link_174 (lv_at hl 0 rfl) ?_
                                  obtain ⟨g176, hF⟩ := gd_of hF
                                  refine va_iald (D := D) hx hb hK hP 11 0 (m_11 G S139) rfl (ix_in g176) d_GM_link_176 ?_
                                  refine lv_topi (fun x176 ex176 => ?_)
                                  have hF := lt_of hF ex176
                                  refine lv_ior hx hb d_GM_link_177 ?_
                                  refine lv_topi (fun x177 ex177 => ?_)
                                  have hF := lt_of hF ex177
                                  obtain ⟨g178, hF⟩ := gd_of hF
                                  refine va_iastE (D := D) hx hb hK hP hD hS 11 0 (m_11 G S139) rfl (ix_in g178) (msta_11 G S139 y129_5.toNatClampNeg x177) d_GM_link_178 (fun H locs hP hD hS => ?_)
                                  obtain ⟨S178, eS178⟩ : ∃ y : MS, y = stM S139 11 y129_5.toNatClampNeg x177 := ⟨_, rfl⟩
                                  rw [← eS178] at hP hD
                                  have hF := lt_of hF eS178
                                  exact join179 S178 _ _ ls hF hP hD hS (lv_sub hl [0, 1, 2, 3, 4, 5, 6] rfl)
                          refine loop139 _ ?_ (fz 2000) S129 0 _ _ ls hF hP hD hS hl
                          intro S185 y185_6 H locs ls hF hP hD hS hl
                          obtain ⟨x185, ex185⟩ : ∃ y : Int32, y = y129_5 + 1 := ⟨_, rfl⟩
                          have hF := lt_of hF ex185
                          refine lv_iinc (v := x185) (lv' := [(5, .int x185), (6, .int y185_6), (4, .int y119_4), (3, .int y95_3), (2, .int y95_2), (1, .int y95_1), (0, .ref (mA G 0))]) hx hb d_GM_link_185 hl (k := 1) rfl (by rw [ex185]; rfl) (by decide) rfl (fun ls hl => ?_)
                          refine lv_goto (tgt := 129) hx hb d_GM_link_188 (by decide) ?_
                          exact ih129 S185 x185 _ _ ls hF hP hD hS (lv_sub hl [0, 2, 3, 4, 5, 6] rfl)
                    refine loop129 _ ?_ (fz 2000) S119 0 _ _ ls hF hP hD hS hl
                    intro S191 y191_5 H locs ls hF hP hD hS hl
                    obtain ⟨x191, ex191⟩ : ∃ y : Int32, y = y119_4 + 1 := ⟨_, rfl⟩
                    have hF := lt_of hF ex191
                    refine lv_iinc (v := x191) (lv' := [(4, .int x191), (5, .int y191_5), (3, .int y95_3), (2, .int y95_2), (1, .int y95_1), (0, .ref (mA G 0))]) hx hb d_GM_link_191 hl (k := 1) rfl (by rw [ex191]; rfl) (by decide) rfl (fun ls hl => ?_)
                    refine lv_goto (tgt := 119) hx hb d_GM_link_194 (by decide) ?_
                    exact ih119 S191 x191 _ _ ls hF hP hD hS (lv_sub hl [0, 2, 3, 4, 5] rfl)
              refine loop119 _ ?_ (fz 2000) S95 0 _ _ ls hF hP hD hS hl
              intro S197 y197_4 H locs ls hF hP hD hS hl
              refine lv_iconst (v := 0) hx hb d_GM_link_197 (by decide) ?_
              refine lv_istore (lv' := [(4, .int 0), (3, .int y95_3), (2, .int y95_2), (1, .int y95_1), (0, .ref (mA G 0))]) hx hb d_GM_link_198 hl (by decide) rfl (fun ls hl => ?_)
              have loop200 : ∀ (K200 : MS → Int32 → Option (Int32 × MS)) (hexit : ∀ (S1 : MS) (y200_4 : Int32) (H : Heap) (locs : List Loc) (ls : Array Slot), K200 S1 y200_4 = some R → va_P D vwCl (wM G S1) H → va_D A (wM G S1) → va_S A s.heap H locs → lv_has ls 7 [(4, .int y200_4), (3, .int y95_3), (2, .int y95_2), (1, .int y95_1), (0, .ref (mA G 0))] → W p l e (headSpec ws_GM_link ({ frames := 4, cells := 0, slots := 0, locals := 98 })).room s m ([.ref (mA G 0)] : List Value).toArray below meth c H locs 0 0 (MQ below (va_Qi (fun (r : Int32) (S' : MS) => (r, S') = R) (wX D G A) A) ([.ref (mA G 0)] : List Value).toArray s 0 0 A) (F0 m 232 ls [])) (n : Nat) (S1 : MS) (y200_4 : Int32) (H : Heap) (locs : List Loc) (ls : Array Slot), q_GM_link_200 n S1 y95_3 y95_2 y95_1 y200_4 K200 = some R → va_P D vwCl (wM G S1) H → va_D A (wM G S1) → va_S A s.heap H locs → lv_has ls 7 [(4, .int y200_4), (3, .int y95_3), (2, .int y95_2), (1, .int y95_1), (0, .ref (mA G 0))] → W p l e (headSpec ws_GM_link ({ frames := 4, cells := 0, slots := 0, locals := 98 })).room s m ([.ref (mA G 0)] : List Value).toArray below meth c H locs 0 0 (MQ below (va_Qi (fun (r : Int32) (S' : MS) => (r, S') = R) (wX D G A) A) ([.ref (mA G 0)] : List Value).toArray s 0 0 A) (F0 m 200 ls []) := by
                intro K200 hexit200 n
                induction n with
                | zero => intro S1 y200_4 H locs ls hF; exact nomatch (show (none : Option (Int32 × MS)) = some R from hF)
                | succ n ih200 =>
                  intro S200 y200_4 H locs ls hF hP hD hS hl
                  rw [q_GM_link_200] at hF
                  refine lv_iload hx hb d_GM_link_200 (lv_at hl 0 rfl) ?_
                  refine lv_bipush (v := 26) hx hb d_GM_link_202 (by decide) ?_
                  refine lv_icmp_ge (tgt := 232) hx hb d_GM_link_204 (by decide) (fun c_204 => ?_) (fun c_204 => ?_)
                  · have hF := ps_of c_204 hF
                    exact hexit200 S200 y200_4 _ _ ls hF hP hD hS (lv_sub hl [0, 1, 2, 3, 4] rfl)
                  · have hF := ng_of c_204 hF
                    refine lv_aload_n hx hb d_GM_link_207 rfl (lv_at hl 4 rfl) ?_
                    refine va_get (D := D) (ci := 6) (v := .ref (mA G 11)) (C := R_GM) (T := T_GM) (N := 30) hx hb hts (fun w h => List.mem_cons_of_mem _ (in_GM w h)) hown hK hP 0 (m_0 G S200) rfl 16 (by decide) (hts _ (List.mem_cons_of_mem _ kw460)) (fun _ h9 => h9) rfl d_GM_link_208 ?_
                    refine lv_iload hx hb d_GM_link_211 (lv_at hl 0 rfl) ?_
                    obtain ⟨g213, hF⟩ := gd_of hF
                    refine va_iald (D := D) hx hb hK hP 11 0 (m_11 G S200) rfl (ix_in g213) d_GM_link_213 ?_
                    refine lv_topi (fun x213 ex213 => ?_)
                    have hF := lt_of hF ex213
                    refine lv_iload hx hb d_GM_link_214 (lv_at hl 0 rfl) ?_
                    refine lv_ishr hx hb d_GM_link_216 ?_
                    refine lv_topi (fun x216 ex216 => ?_)
                    have hF := lt_of hF ex216
                    refine lv_iconst (v := 1) hx hb d_GM_link_217 (by decide) ?_
                    refine lv_iand hx hb d_GM_link_218 ?_
                    refine lv_topi (fun x218 ex218 => ?_)
                    have hF := lt_of hF ex218
                    refine lv_iconst (v := 1) hx hb d_GM_link_219 (by decide) ?_
                    refine lv_icmp_ne (tgt := 226) hx hb d_GM_link_220 (by decide) (fun c_220 => ?_) (fun c_220 => ?_)
                    · have hF := ng_of c_220 hF
                      obtain ⟨x226, ex226⟩ : ∃ y : Int32, y = y200_4 + 1 := ⟨_, rfl⟩
                      have hF := lt_of hF ex226
                      refine lv_iinc (v := x226) (lv' := [(4, .int x226), (3, .int y95_3), (2, .int y95_2), (1, .int y95_1), (0, .ref (mA G 0))]) hx hb d_GM_link_226 hl (k := 0) rfl (by rw [ex226]; rfl) (by decide) rfl (fun ls hl => ?_)
                      refine lv_goto (tgt := 200) hx hb d_GM_link_229 (by decide) ?_
                      exact ih200 S200 x226 _ _ ls hF hP hD hS (lv_sub hl [0, 1, 2, 3, 4] rfl)
                    · have hF := ps_of c_220 hF
                      refine lv_bipush (v := (-5)) hx hb d_GM_link_223 (by decide) ?_
                      exact W.iret (v := (-5)) hx hb hr (fun t ht hW => ⟨⟨(-5), S200, rfl, Option.some.inj hF, by rw [ht]; exact hP, hD⟩, hS.F ht⟩) hS.2.2 d_GM_link_225
              refine loop200 _ ?_ (fz 2000) S197 0 _ _ ls hF hP hD hS hl
              intro S232 y232_4 H locs ls hF hP hD hS hl
              refine lv_aload_n hx hb d_GM_link_232 rfl (lv_at hl 4 rfl) ?_
              refine lv_iconst (v := 1) hx hb d_GM_link_233 (by decide) ?_
              refine va_putE (D := D) (ci := 6) (v := .int 1) (ty := .boolean) (C := R_GM) (T := T_GM) (N := 30) hx hb hts (fun w h => List.mem_cons_of_mem _ (in_GM w h)) t_GM t_GM_ok n_GM hown hK hP hD hS 0 (m_0 G S232) rfl 3 (by decide) (hts _ (List.mem_cons_of_mem _ kw447)) (fun _ h9 => h9) rfl (by decide +kernel) (bl_nar (Or.inr rfl)) (bl_fit (Or.inr rfl)) (Nat.le_of_ble_eq_true rfl) (mst_3 G S232 1) d_GM_link_234 (fun H locs hP hD hS => ?_)
              obtain ⟨S234, eS234⟩ : ∃ y : MS, y = stM S232 0 3 1 := ⟨_, rfl⟩
              rw [← eS234] at hP hD
              have hF := lt_of hF eS234
              refine lv_iload_n hx hb d_GM_link_237 rfl (lv_at hl 1 rfl) ?_
              exact W.iret (v := y95_3) hx hb hr (fun t ht hW => ⟨⟨y95_3, S234, rfl, Option.some.inj hF, by rw [ht]; exact hP, hD⟩, hS.F ht⟩) hS.2.2 d_GM_link_238
            · have hF := ng_of c_110 hF
              exact join113 S95 _ _ ls hF hP hD hS (lv_sub hl [0, 1, 2, 3, 4] rfl)
        · have hF := ps_of c_37 hF
          refine lv_bipush (v := (-3)) hx hb d_GM_link_40 (by decide) ?_
          exact W.iret (v := (-3)) hx hb hr (fun t ht hW => ⟨⟨(-3), S34, rfl, Option.some.inj hF, by rw [ht]; exact hP, hD⟩, hS.F ht⟩) hS.2.2 d_GM_link_42
      · have hF := ps_of c_24 hF
        exact join27 S _ _ ls hF hP hD hS (lv_sub hl [0] rfl)
set_option maxHeartbeats 4000000 in
set_option maxRecDepth 100000 in
theorem c_GM_apply (l : Launch) (p0 : Int32) (p1 : Int32) (p2 : Int32) : Met l y_GM_apply ws_GM_apply ({ frames := 0, cells := 0, slots := 0, locals := 0 }) (va_Pc [.int p0, .int p1, .int p2] (fun _ => True)) (vp_Si (fun r => r = f_GM_apply p0 p1 p2)) 0 0 (fun _ => False) := by
  refine Met.ofW (cc := b_GM_apply) (maxL := 3) (ret := (some .int)) (by decide) rfl ?_
  intro p e s m args below meth c s₁ B hml hv
  obtain ⟨rfl, -⟩ := hv
  have hx := B.exec
  have hb := B.bytes
  have hr := B.returns
  have hts := atoms_spec (ws := ws_GM_apply) B.pre
  have hown : s.vm.findClass R_GM = some m.cls := findClass_of_methodNamed B.named
  have hlocks := B.notSynchronized
  have hl := lv_entry ([.int p0, .int p1, .int p2]) (n := 3) (Nat.le_of_ble_eq_true rfl)
  rw [lg_entry_eq]
  generalize (lg_sl ([.int p0, .int p1, .int p2]) ++ List.replicate (3 - (lg_sl ([.int p0, .int p1, .int p2])).length) Slot.unset).toArray = ls at hl ⊢
  have hl : lv_has ls 3 [(0, .int p0), (1, .int p1), (2, .int p2)] := hl
  refine lv_iload_n hx hb d_GM_apply_0 rfl (lv_at hl 0 rfl) ?_
  refine lv_bipush (v := 43) hx hb d_GM_apply_1 (by decide) ?_
  refine lv_icmp_ne (tgt := 10) hx hb d_GM_apply_3 (by decide) (fun c_3 => ?_) (fun c_3 => ?_)
  · refine lv_iload_n hx hb d_GM_apply_10 rfl (lv_at hl 0 rfl) ?_
    refine lv_bipush (v := 45) hx hb d_GM_apply_11 (by decide) ?_
    refine lv_icmp_ne (tgt := 20) hx hb d_GM_apply_13 (by decide) (fun c_13 => ?_) (fun c_13 => ?_)
    · refine lv_iload_n hx hb d_GM_apply_20 rfl (lv_at hl 0 rfl) ?_
      refine lv_bipush (v := 38) hx hb d_GM_apply_21 (by decide) ?_
      refine lv_icmp_ne (tgt := 30) hx hb d_GM_apply_23 (by decide) (fun c_23 => ?_) (fun c_23 => ?_)
      · refine lv_iload_n hx hb d_GM_apply_30 rfl (lv_at hl 0 rfl) ?_
        refine lv_bipush (v := 124) hx hb d_GM_apply_31 (by decide) ?_
        refine lv_icmp_ne (tgt := 40) hx hb d_GM_apply_33 (by decide) (fun c_33 => ?_) (fun c_33 => ?_)
        · refine lv_iload_n hx hb d_GM_apply_40 rfl (lv_at hl 0 rfl) ?_
          refine lv_bipush (v := 94) hx hb d_GM_apply_41 (by decide) ?_
          refine lv_icmp_ne (tgt := 50) hx hb d_GM_apply_43 (by decide) (fun c_43 => ?_) (fun c_43 => ?_)
          · refine lv_iload_n hx hb d_GM_apply_50 rfl (lv_at hl 0 rfl) ?_
            refine lv_bipush (v := 60) hx hb d_GM_apply_51 (by decide) ?_
            refine lv_icmp_ne (tgt := 67) hx hb d_GM_apply_53 (by decide) (fun c_53 => ?_) (fun c_53 => ?_)
            · refine lv_iload_n hx hb d_GM_apply_67 rfl (lv_at hl 0 rfl) ?_
              refine lv_bipush (v := 61) hx hb d_GM_apply_68 (by decide) ?_
              refine lv_icmp_ne (tgt := 86) hx hb d_GM_apply_70 (by decide) (fun c_70 => ?_) (fun c_70 => ?_)
              · refine lv_iload_n hx hb d_GM_apply_86 rfl (lv_at hl 2 rfl) ?_
                exact W.iret (v := p2) hx hb hr (fun t ht hW => ⟨p2, rfl, by simp only [f_GM_apply, if_neg c_3, if_neg c_13, if_neg c_23, if_neg c_33, if_neg c_43, if_neg c_53, if_neg c_70], ht⟩) (fun q h => absurd h List.not_mem_nil) d_GM_apply_87
              · refine lv_iload_n hx hb d_GM_apply_73 rfl (lv_at hl 1 rfl) ?_
                refine lv_iload_n hx hb d_GM_apply_74 rfl (lv_at hl 2 rfl) ?_
                refine lv_icmp_ne (tgt := 82) hx hb d_GM_apply_75 (by decide) (fun c_75 => ?_) (fun c_75 => ?_)
                · refine lv_iconst (v := 0) hx hb d_GM_apply_82 (by decide) ?_
                  refine lv_goto (tgt := 87) hx hb d_GM_apply_83 (by decide) ?_
                  exact W.iret (v := 0) hx hb hr (fun t ht hW => ⟨0, rfl, by simp only [f_GM_apply, if_neg c_3, if_neg c_13, if_neg c_23, if_neg c_33, if_neg c_43, if_neg c_53, if_pos c_70, if_neg c_75], ht⟩) (fun q h => absurd h List.not_mem_nil) d_GM_apply_87
                · refine lv_iconst (v := 1) hx hb d_GM_apply_78 (by decide) ?_
                  refine lv_goto (tgt := 87) hx hb d_GM_apply_79 (by decide) ?_
                  exact W.iret (v := 1) hx hb hr (fun t ht hW => ⟨1, rfl, by simp only [f_GM_apply, if_neg c_3, if_neg c_13, if_neg c_23, if_neg c_33, if_neg c_43, if_neg c_53, if_pos c_70, if_pos c_75], ht⟩) (fun q h => absurd h List.not_mem_nil) d_GM_apply_87
            · refine lv_iload_n hx hb d_GM_apply_56 rfl (lv_at hl 1 rfl) ?_
              refine lv_iload_n hx hb d_GM_apply_57 rfl (lv_at hl 2 rfl) ?_
              refine lv_icmp_ge (tgt := 65) hx hb d_GM_apply_58 (by decide) (fun c_58 => ?_) (fun c_58 => ?_)
              · refine lv_iconst (v := 0) hx hb d_GM_apply_65 (by decide) ?_
                exact W.iret (v := 0) hx hb hr (fun t ht hW => ⟨0, rfl, by simp only [f_GM_apply, if_neg c_3, if_neg c_13, if_neg c_23, if_neg c_33, if_neg c_43, if_pos c_53, if_pos c_58], ht⟩) (fun q h => absurd h List.not_mem_nil) d_GM_apply_66
              · refine lv_iconst (v := 1) hx hb d_GM_apply_61 (by decide) ?_
                refine lv_goto (tgt := 66) hx hb d_GM_apply_62 (by decide) ?_
                exact W.iret (v := 1) hx hb hr (fun t ht hW => ⟨1, rfl, by simp only [f_GM_apply, if_neg c_3, if_neg c_13, if_neg c_23, if_neg c_33, if_neg c_43, if_pos c_53, if_neg c_58], ht⟩) (fun q h => absurd h List.not_mem_nil) d_GM_apply_66
          · refine lv_iload_n hx hb d_GM_apply_46 rfl (lv_at hl 1 rfl) ?_
            refine lv_iload_n hx hb d_GM_apply_47 rfl (lv_at hl 2 rfl) ?_
            refine lv_ixor hx hb d_GM_apply_48 ?_
            refine lv_topi (fun x48 ex48 => ?_)
            exact W.iret (v := x48) hx hb hr (fun t ht hW => ⟨x48, rfl, by subst ex48; simp only [f_GM_apply, if_neg c_3, if_neg c_13, if_neg c_23, if_neg c_33, if_pos c_43], ht⟩) (fun q h => absurd h List.not_mem_nil) d_GM_apply_49
        · refine lv_iload_n hx hb d_GM_apply_36 rfl (lv_at hl 1 rfl) ?_
          refine lv_iload_n hx hb d_GM_apply_37 rfl (lv_at hl 2 rfl) ?_
          refine lv_ior hx hb d_GM_apply_38 ?_
          refine lv_topi (fun x38 ex38 => ?_)
          exact W.iret (v := x38) hx hb hr (fun t ht hW => ⟨x38, rfl, by subst ex38; simp only [f_GM_apply, if_neg c_3, if_neg c_13, if_neg c_23, if_pos c_33], ht⟩) (fun q h => absurd h List.not_mem_nil) d_GM_apply_39
      · refine lv_iload_n hx hb d_GM_apply_26 rfl (lv_at hl 1 rfl) ?_
        refine lv_iload_n hx hb d_GM_apply_27 rfl (lv_at hl 2 rfl) ?_
        refine lv_iand hx hb d_GM_apply_28 ?_
        refine lv_topi (fun x28 ex28 => ?_)
        exact W.iret (v := x28) hx hb hr (fun t ht hW => ⟨x28, rfl, by subst ex28; simp only [f_GM_apply, if_neg c_3, if_neg c_13, if_pos c_23], ht⟩) (fun q h => absurd h List.not_mem_nil) d_GM_apply_29
    · refine lv_iload_n hx hb d_GM_apply_16 rfl (lv_at hl 1 rfl) ?_
      refine lv_iload_n hx hb d_GM_apply_17 rfl (lv_at hl 2 rfl) ?_
      refine lv_isub hx hb d_GM_apply_18 ?_
      refine lv_topi (fun x18 ex18 => ?_)
      exact W.iret (v := x18) hx hb hr (fun t ht hW => ⟨x18, rfl, by subst ex18; simp only [f_GM_apply, if_neg c_3, if_pos c_13], ht⟩) (fun q h => absurd h List.not_mem_nil) d_GM_apply_19
  · refine lv_iload_n hx hb d_GM_apply_6 rfl (lv_at hl 1 rfl) ?_
    refine lv_iload_n hx hb d_GM_apply_7 rfl (lv_at hl 2 rfl) ?_
    refine lv_iadd hx hb d_GM_apply_8 ?_
    refine lv_topi (fun x8 ex8 => ?_)
    exact W.iret (v := x8) hx hb hr (fun t ht hW => ⟨x8, rfl, by subst ex8; simp only [f_GM_apply, if_pos c_3], ht⟩) (fun q h => absurd h List.not_mem_nil) d_GM_apply_9
set_option maxHeartbeats 4000000 in
set_option maxRecDepth 100000 in
theorem c_GM_operand (l : Launch) (D : va_G) (G : MP) (S : MS) (sz : Nat) (p1 : Int32) (p2 : Int32) (R : MS) (hF : f_GM_operand S p1 p2 = some R) : Met l y_GM_operand ws_GM_operand ({ frames := 1, cells := 0, slots := 0, locals := 22 }) (va_Pc [.ref (mA G 0), .int p1, .int p2] (mPre D G S sz)) (va_Qv (fun S' : MS => S' = R) (wX D G (va_A (wM G S) sz)) (va_A (wM G S) sz)) 0 0 (va_A (wM G S) sz) := by
  refine Met.ofW (cc := b_GM_operand) (maxL := 4) (ret := none) (by decide) rfl ?_
  intro p e s m args below meth c s₁ B hml hv
  obtain ⟨rfl, hsz, hP, hK, hD0⟩ := hv
  have hx := B.exec
  have hb := B.bytes
  have hr := B.returns
  have hts := atoms_spec (ws := ws_GM_operand) B.pre
  have hown : s.vm.findClass R_GM = some m.cls := findClass_of_methodNamed B.named
  have hlocks := B.notSynchronized
  subst hsz
  have hD := hD0.self (sz := s.heap.size)
  generalize hAe : va_A (wM G S) s.heap.size = A at hD ⊢
  have hA : ∀ q : Nat, s.heap.size ≤ q → A q := fun q h => by rw [← hAe]; exact Or.inr h
  have hS : va_S A s.heap s.heap [] := va_S.rf
  have hl := lv_entry ([.ref (mA G 0), .int p1, .int p2]) (n := 4) (Nat.le_of_ble_eq_true rfl)
  rw [lg_entry_eq]
  generalize (lg_sl ([.ref (mA G 0), .int p1, .int p2]) ++ List.replicate (4 - (lg_sl ([.ref (mA G 0), .int p1, .int p2])).length) Slot.unset).toArray = ls at hl ⊢
  have hl : lv_has ls 4 [(0, .ref (mA G 0)), (1, .int p1), (2, .int p2)] := hl
  unfold f_GM_operand at hF
  refine lv_iload_n hx hb d_GM_operand_0 rfl (lv_at hl 2 rfl) ?_
  refine lv_istore_n (lv' := [(3, .int p2), (0, .ref (mA G 0)), (1, .int p1), (2, .int p2)]) hx hb d_GM_operand_1 rfl hl (by decide) rfl (fun ls hl => ?_)
  have loop2 : ∀ (K2 : MS → Int32 → Option MS) (hexit : ∀ (S1 : MS) (y2_3 : Int32) (H : Heap) (locs : List Loc) (ls : Array Slot), K2 S1 y2_3 = some R → va_P D vwCl (wM G S1) H → va_D A (wM G S1) → va_S A s.heap H locs → lv_has ls 4 [(3, .int y2_3), (0, .ref (mA G 0)), (1, .int p1), (2, .int p2)] → W p l e (headSpec ws_GM_operand ({ frames := 1, cells := 0, slots := 0, locals := 22 })).room s m ([.ref (mA G 0), .int p1, .int p2] : List Value).toArray below meth c H locs 0 0 (MQ below (va_Qv (fun S' : MS => S' = R) (wX D G A) A) ([.ref (mA G 0), .int p1, .int p2] : List Value).toArray s 0 0 A) (F0 m 51 ls [])) (n : Nat) (S1 : MS) (y2_3 : Int32) (H : Heap) (locs : List Loc) (ls : Array Slot), q_GM_operand_2 n S1 p1 p2 y2_3 K2 = some R → va_P D vwCl (wM G S1) H → va_D A (wM G S1) → va_S A s.heap H locs → lv_has ls 4 [(3, .int y2_3), (0, .ref (mA G 0)), (1, .int p1), (2, .int p2)] → W p l e (headSpec ws_GM_operand ({ frames := 1, cells := 0, slots := 0, locals := 22 })).room s m ([.ref (mA G 0), .int p1, .int p2] : List Value).toArray below meth c H locs 0 0 (MQ below (va_Qv (fun S' : MS => S' = R) (wX D G A) A) ([.ref (mA G 0), .int p1, .int p2] : List Value).toArray s 0 0 A) (F0 m 2 ls []) := by
    intro K2 hexit2 n
    induction n with
    | zero => intro S1 y2_3 H locs ls hF; exact nomatch (show (none : Option MS) = some R from hF)
    | succ n ih2 =>
      intro S2 y2_3 H locs ls hF hP hD hS hl
      rw [q_GM_operand_2] at hF
      refine lv_aload_n hx hb d_GM_operand_2 rfl (lv_at hl 1 rfl) ?_
      refine va_get (D := D) (ci := 6) (v := .int (S2 0 28)) (C := R_GM) (T := T_GM) (N := 30) hx hb hts (fun w h => List.mem_cons_of_mem _ (in_GM w h)) hown hK hP 0 (m_0 G S2) rfl 28 (by decide) (hts _ (List.mem_cons_of_mem _ kw472)) (fun _ h9 => h9) rfl d_GM_operand_3 ?_
      refine lv_aload_n hx hb d_GM_operand_6 rfl (lv_at hl 1 rfl) ?_
      refine va_get (D := D) (ci := 6) (v := .ref (mA G 17)) (C := R_GM) (T := T_GM) (N := 30) hx hb hts (fun w h => List.mem_cons_of_mem _ (in_GM w h)) hown hK hP 0 (m_0 G S2) rfl 26 (by decide) (hts _ (List.mem_cons_of_mem _ kw470)) (fun _ h9 => h9) rfl d_GM_operand_7 ?_
      refine lv_iload_n hx hb d_GM_operand_10 rfl (lv_at hl 2 rfl) ?_
      obtain ⟨g11, hF⟩ := gd_of hF
      refine va_iald (D := D) hx hb hK hP 17 0 (m_17 G S2) rfl (ix_in g11) d_GM_operand_11 ?_
      refine lv_topi (fun x11 ex11 => ?_)
      have hF := lt_of hF ex11
      refine lv_icmp_le (tgt := 51) hx hb d_GM_operand_12 (by decide) (fun c_12 => ?_) (fun c_12 => ?_)
      · have hF := ps_of c_12 hF
        exact hexit2 S2 y2_3 _ _ ls hF hP hD hS (lv_sub hl [0, 1, 2, 3] rfl)
      · have hF := ng_of c_12 hF
        refine lv_aload_n hx hb d_GM_operand_15 rfl (lv_at hl 1 rfl) ?_
        refine lv_dup hx hb d_GM_operand_16 rfl ?_
        refine va_get (D := D) (ci := 6) (v := .int (S2 0 28)) (C := R_GM) (T := T_GM) (N := 30) hx hb hts (fun w h => List.mem_cons_of_mem _ (in_GM w h)) hown hK hP 0 (m_0 G S2) rfl 28 (by decide) (hts _ (List.mem_cons_of_mem _ kw472)) (fun _ h9 => h9) rfl d_GM_operand_17 ?_
        refine lv_iconst (v := 1) hx hb d_GM_operand_20 (by decide) ?_
        refine lv_isub hx hb d_GM_operand_21 ?_
        refine lv_topi (fun x21 ex21 => ?_)
        have hF := lt_of hF ex21
        refine va_putE (D := D) (ci := 6) (v := .int x21) (ty := .int) (C := R_GM) (T := T_GM) (N := 30) hx hb hts (fun w h => List.mem_cons_of_mem _ (in_GM w h)) t_GM t_GM_ok n_GM hown hK hP hD hS 0 (m_0 G S2) rfl 28 (by decide) (hts _ (List.mem_cons_of_mem _ kw472)) (fun _ h9 => h9) rfl (by decide +kernel) rfl rfl (Nat.le_of_ble_eq_true rfl) (mst_28 G S2 x21) d_GM_operand_22 (fun H locs hP hD hS => ?_)
        obtain ⟨S22, eS22⟩ : ∃ y : MS, y = stM S2 0 28 x21 := ⟨_, rfl⟩
        rw [← eS22] at hP hD
        have hF := lt_of hF eS22
        refine lv_aload_n hx hb d_GM_operand_25 rfl (lv_at hl 1 rfl) ?_
        refine va_get (D := D) (ci := 6) (v := .ref (mA G 18)) (C := R_GM) (T := T_GM) (N := 30) hx hb hts (fun w h => List.mem_cons_of_mem _ (in_GM w h)) hown hK hP 0 (m_0 G S22) rfl 27 (by decide) (hts _ (List.mem_cons_of_mem _ kw471)) (fun _ h9 => h9) rfl d_GM_operand_26 ?_
        refine lv_aload_n hx hb d_GM_operand_29 rfl (lv_at hl 1 rfl) ?_
        refine va_get (D := D) (ci := 6) (v := .int (S22 0 28)) (C := R_GM) (T := T_GM) (N := 30) hx hb hts (fun w h => List.mem_cons_of_mem _ (in_GM w h)) hown hK hP 0 (m_0 G S22) rfl 28 (by decide) (hts _ (List.mem_cons_of_mem _ kw472)) (fun _ h9 => h9) rfl d_GM_operand_30 ?_
        obtain ⟨g33, hF⟩ := gd_of hF
        refine va_iald (D := D) hx hb hK hP 18 0 (m_18 G S22) rfl (ix_in g33) d_GM_operand_33 ?_
        refine lv_topi (fun x33 ex33 => ?_)
        have hF := lt_of hF ex33
        refine lv_bipush (v := 126) hx hb d_GM_operand_34 (by decide) ?_
        obtain ⟨k47, hk47, hF⟩ := jn_of hF
        have join47 : ∀ (T1 : MS) (z47 : Int32) (H : Heap) (locs : List Loc) (ls : Array Slot), k47 T1 z47 = some R → va_P D vwCl (wM G T1) H → va_D A (wM G T1) → va_S A s.heap H locs → lv_has ls 4 [(3, .int y2_3), (0, .ref (mA G 0)), (1, .int p1), (2, .int p2)] → W p l e (headSpec ws_GM_operand ({ frames := 1, cells := 0, slots := 0, locals := 22 })).room s m ([.ref (mA G 0), .int p1, .int p2] : List Value).toArray below meth c H locs 0 0 (MQ below (va_Qv (fun S' : MS => S' = R) (wX D G A) A) ([.ref (mA G 0), .int p1, .int p2] : List Value).toArray s 0 0 A) (F0 m 47 ls [.int z47]) := by
          intro T47 z47 H locs ls hF hP hD hS hl
          rw [hk47] at hF
          refine lv_istore_n (lv' := [(3, .int z47), (0, .ref (mA G 0)), (1, .int p1), (2, .int p2)]) hx hb d_GM_operand_47 rfl hl (by decide) rfl (fun ls hl => ?_)
          refine lv_goto (tgt := 2) hx hb d_GM_operand_48 (by decide) ?_
          exact ih2 T47 z47 _ _ ls hF hP hD hS (lv_sub hl [0, 1, 2, 3] rfl)
        refine lv_icmp_ne (tgt := 45) hx hb d_GM_operand_36 (by decide) (fun c_36 => ?_) (fun c_36 => ?_)
        · have hF := ng_of c_36 hF
          refine lv_iload_n hx hb d_GM_operand_45 rfl (lv_at hl 0 rfl) ?_
          refine lv_ineg hx hb d_GM_operand_46 ?_
          refine lv_topi (fun x46 ex46 => ?_)
          have hF := lt_of hF ex46
          exact join47 S22 x46 _ _ ls hF hP hD hS (lv_sub hl [0, 1, 2, 3] rfl)
        · have hF := ps_of c_36 hF
          refine lv_iload_n hx hb d_GM_operand_39 rfl (lv_at hl 0 rfl) ?_
          refine lv_iconst (v := (-1)) hx hb d_GM_operand_40 (by decide) ?_
          refine lv_ixor hx hb d_GM_operand_41 ?_
          refine lv_topi (fun x41 ex41 => ?_)
          have hF := lt_of hF ex41
          refine lv_goto (tgt := 47) hx hb d_GM_operand_42 (by decide) ?_
          exact join47 S22 x41 _ _ ls hF hP hD hS (lv_sub hl [0, 1, 2, 3] rfl)
  refine loop2 _ ?_ (fz 2000) S p2 _ _ ls hF hP hD hS hl
  intro S51 y51_3 H locs ls hF hP hD hS hl
  refine lv_aload_n hx hb d_GM_operand_51 rfl (lv_at hl 1 rfl) ?_
  refine va_get (D := D) (ci := 6) (v := .ref (mA G 15)) (C := R_GM) (T := T_GM) (N := 30) hx hb hts (fun w h => List.mem_cons_of_mem _ (in_GM w h)) hown hK hP 0 (m_0 G S51) rfl 24 (by decide) (hts _ (List.mem_cons_of_mem _ kw468)) (fun _ h9 => h9) rfl d_GM_operand_52 ?_
  refine lv_iload_n hx hb d_GM_operand_55 rfl (lv_at hl 2 rfl) ?_
  refine lv_aload_n hx hb d_GM_operand_56 rfl (lv_at hl 1 rfl) ?_
  refine va_get (D := D) (ci := 6) (v := .ref (mA G 16)) (C := R_GM) (T := T_GM) (N := 30) hx hb hts (fun w h => List.mem_cons_of_mem _ (in_GM w h)) hown hK hP 0 (m_0 G S51) rfl 25 (by decide) (hts _ (List.mem_cons_of_mem _ kw469)) (fun _ h9 => h9) rfl d_GM_operand_57 ?_
  refine lv_iload_n hx hb d_GM_operand_60 rfl (lv_at hl 2 rfl) ?_
  obtain ⟨g61, hF⟩ := gd_of hF
  refine va_iald (D := D) hx hb hK hP 16 0 (m_16 G S51) rfl (ix_in g61) d_GM_operand_61 ?_
  refine lv_topi (fun x61 ex61 => ?_)
  have hF := lt_of hF ex61
  refine lv_aload_n hx hb d_GM_operand_62 rfl (lv_at hl 1 rfl) ?_
  refine va_get (D := D) (ci := 6) (v := .ref (mA G 15)) (C := R_GM) (T := T_GM) (N := 30) hx hb hts (fun w h => List.mem_cons_of_mem _ (in_GM w h)) hown hK hP 0 (m_0 G S51) rfl 24 (by decide) (hts _ (List.mem_cons_of_mem _ kw468)) (fun _ h9 => h9) rfl d_GM_operand_63 ?_
  refine lv_iload_n hx hb d_GM_operand_66 rfl (lv_at hl 2 rfl) ?_
  obtain ⟨g67, hF⟩ := gd_of hF
  refine va_iald (D := D) hx hb hK hP 15 0 (m_15 G S51) rfl (ix_in g67) d_GM_operand_67 ?_
  refine lv_topi (fun x67 ex67 => ?_)
  have hF := lt_of hF ex67
  refine lv_iload_n hx hb d_GM_operand_68 rfl (lv_at hl 0 rfl) ?_
  refine vp_callSi (W.runS (As := [.int x61, .int x67, .int y51_3]) (rest := [.int p1, .ref (mA G 15)]) ⟨hx, hb, hml, hown, hts⟩ (c_GM_apply l x61 x67 y51_3) (cwS 3 hts (gS kw592 kw593 kw7 kw594) rfl rfl rfl (by decide +kernel) ⟨by show (0 : Nat) + 1 ≤ 1; omega, by show 8 + (3 + 11) + 0 ≤ 22; omega⟩) ⟨blindNM, fun U hU hW => ⟨rfl, trivial⟩⟩ rfl rfl hl.1 rfl (lv_room (Nat.le_of_ble_eq_true rfl)) d_GM_operand_69 ⟨Nat.zero_le _, Nat.zero_le _⟩) (fun x69 ex69 => ?_)
  have hF := lt_of hF ex69
  obtain ⟨g72, hF⟩ := gd_of hF
  refine va_iastE (D := D) hx hb hK hP hD hS 15 0 (m_15 G S51) rfl (ix_in g72) (msta_15 G S51 p1.toNatClampNeg x69) d_GM_operand_72 (fun H locs hP hD hS => ?_)
  obtain ⟨S72, eS72⟩ : ∃ y : MS, y = stM S51 15 p1.toNatClampNeg x69 := ⟨_, rfl⟩
  rw [← eS72] at hP hD
  have hF := lt_of hF eS72
  exact W.vret hx hb hr (fun t ht hW => ⟨⟨S72, rfl, Option.some.inj hF, by rw [ht]; exact hP, hD⟩, hS.F ht⟩) hS.2.2 d_GM_operand_73
set_option maxHeartbeats 4000000 in
set_option maxRecDepth 100000 in
theorem c_GM_work (l : Launch) (D : va_G) (G : MP) (S : MS) (sz : Nat) (p1 : Int32) (R : (Int32 × MS)) (hF : f_GM_work S p1 = some R) : Met l y_GM_work ws_GM_work ({ frames := 2, cells := 0, slots := 0, locals := 45 }) (va_Pc [.ref (mA G 0), .int p1] (mPre D G S sz)) (va_Qi (fun (r : Int32) (S' : MS) => (r, S') = R) (wX D G (va_A (wM G S) sz)) (va_A (wM G S) sz)) 0 0 (va_A (wM G S) sz) := by
  refine Met.ofW (cc := b_GM_work) (maxL := 7) (ret := (some .int)) (by decide) rfl ?_
  intro p e s m args below meth c s₁ B hml hv
  obtain ⟨rfl, hsz, hP, hK, hD0⟩ := hv
  have hx := B.exec
  have hb := B.bytes
  have hr := B.returns
  have hts := atoms_spec (ws := ws_GM_work) B.pre
  have hown : s.vm.findClass R_GM = some m.cls := findClass_of_methodNamed B.named
  have hlocks := B.notSynchronized
  subst hsz
  have hD := hD0.self (sz := s.heap.size)
  generalize hAe : va_A (wM G S) s.heap.size = A at hD ⊢
  have hA : ∀ q : Nat, s.heap.size ≤ q → A q := fun q h => by rw [← hAe]; exact Or.inr h
  have hS : va_S A s.heap s.heap [] := va_S.rf
  have hl := lv_entry ([.ref (mA G 0), .int p1]) (n := 7) (Nat.le_of_ble_eq_true rfl)
  rw [lg_entry_eq]
  generalize (lg_sl ([.ref (mA G 0), .int p1]) ++ List.replicate (7 - (lg_sl ([.ref (mA G 0), .int p1])).length) Slot.unset).toArray = ls at hl ⊢
  have hl : lv_has ls 7 [(0, .ref (mA G 0)), (1, .int p1)] := hl
  unfold f_GM_work at hF
  refine lv_iconst (v := 0) hx hb d_GM_work_0 (by decide) ?_
  refine lv_istore_n (lv' := [(2, .int 0), (0, .ref (mA G 0)), (1, .int p1)]) hx hb d_GM_work_1 rfl hl (by decide) rfl (fun ls hl => ?_)
  refine lv_iconst (v := 1) hx hb d_GM_work_2 (by decide) ?_
  refine lv_istore_n (lv' := [(3, .int 1), (2, .int 0), (0, .ref (mA G 0)), (1, .int p1)]) hx hb d_GM_work_3 rfl hl (by decide) rfl (fun ls hl => ?_)
  refine lv_aload_n hx hb d_GM_work_4 rfl (lv_at hl 2 rfl) ?_
  refine lv_iconst (v := 0) hx hb d_GM_work_5 (by decide) ?_
  refine va_putE (D := D) (ci := 6) (v := .int 0) (ty := .int) (C := R_GM) (T := T_GM) (N := 30) hx hb hts (fun w h => List.mem_cons_of_mem _ (in_GM w h)) t_GM t_GM_ok n_GM hown hK hP hD hS 0 (m_0 G S) rfl 28 (by decide) (hts _ (List.mem_cons_of_mem _ kw472)) (fun _ h9 => h9) rfl (by decide +kernel) rfl rfl (Nat.le_of_ble_eq_true rfl) (mst_28 G S 0) d_GM_work_6 (fun H locs hP hD hS => ?_)
  obtain ⟨S6, eS6⟩ : ∃ y : MS, y = stM S 0 28 0 := ⟨_, rfl⟩
  rw [← eS6] at hP hD
  have hF := lt_of hF eS6
  refine lv_aload_n hx hb d_GM_work_9 rfl (lv_at hl 2 rfl) ?_
  refine va_get (D := D) (ci := 6) (v := .ref (mA G 17)) (C := R_GM) (T := T_GM) (N := 30) hx hb hts (fun w h => List.mem_cons_of_mem _ (in_GM w h)) hown hK hP 0 (m_0 G S6) rfl 26 (by decide) (hts _ (List.mem_cons_of_mem _ kw470)) (fun _ h9 => h9) rfl d_GM_work_10 ?_
  refine lv_iconst (v := 0) hx hb d_GM_work_13 (by decide) ?_
  refine lv_iconst (v := 0) hx hb d_GM_work_14 (by decide) ?_
  obtain ⟨g15, hF⟩ := gd_of hF
  refine va_iastE (D := D) hx hb hK hP hD hS 17 0 (m_17 G S6) rfl (ix_in g15) (msta_17 G S6 (0 : Int32).toNatClampNeg 0) d_GM_work_15 (fun H locs hP hD hS => ?_)
  obtain ⟨S15, eS15⟩ : ∃ y : MS, y = stM S6 17 (0 : Int32).toNatClampNeg 0 := ⟨_, rfl⟩
  rw [← eS15] at hP hD
  have hF := lt_of hF eS15
  refine lv_aload_n hx hb d_GM_work_16 rfl (lv_at hl 2 rfl) ?_
  refine va_get (D := D) (ci := 6) (v := .ref (mA G 16)) (C := R_GM) (T := T_GM) (N := 30) hx hb hts (fun w h => List.mem_cons_of_mem _ (in_GM w h)) hown hK hP 0 (m_0 G S15) rfl 25 (by decide) (hts _ (List.mem_cons_of_mem _ kw469)) (fun _ h9 => h9) rfl d_GM_work_17 ?_
  refine lv_iconst (v := 0) hx hb d_GM_work_20 (by decide) ?_
  refine lv_iconst (v := 0) hx hb d_GM_work_21 (by decide) ?_
  obtain ⟨g22, hF⟩ := gd_of hF
  refine va_iastE (D := D) hx hb hK hP hD hS 16 0 (m_16 G S15) rfl (ix_in g22) (msta_16 G S15 (0 : Int32).toNatClampNeg 0) d_GM_work_22 (fun H locs hP hD hS => ?_)
  obtain ⟨S22, eS22⟩ : ∃ y : MS, y = stM S15 16 (0 : Int32).toNatClampNeg 0 := ⟨_, rfl⟩
  rw [← eS22] at hP hD
  have hF := lt_of hF eS22
  refine lv_iload_n hx hb d_GM_work_23 rfl (lv_at hl 3 rfl) ?_
  refine lv_istore (lv' := [(4, .int p1), (3, .int 1), (2, .int 0), (0, .ref (mA G 0)), (1, .int p1)]) hx hb d_GM_work_24 hl (by decide) rfl (fun ls hl => ?_)
  have loop26 : ∀ (K26 : MS → Int32 → Int32 → Int32 → Option (Int32 × MS)) (hexit : ∀ (S1 : MS) (y26_4 : Int32) (y26_3 : Int32) (y26_2 : Int32) (H : Heap) (locs : List Loc) (ls : Array Slot), K26 S1 y26_4 y26_3 y26_2 = some R → va_P D vwCl (wM G S1) H → va_D A (wM G S1) → va_S A s.heap H locs → lv_has ls 7 [(4, .int y26_4), (3, .int y26_3), (2, .int y26_2), (0, .ref (mA G 0)), (1, .int p1)] → W p l e (headSpec ws_GM_work ({ frames := 2, cells := 0, slots := 0, locals := 45 })).room s m ([.ref (mA G 0), .int p1] : List Value).toArray below meth c H locs 0 0 (MQ below (va_Qi (fun (r : Int32) (S' : MS) => (r, S') = R) (wX D G A) A) ([.ref (mA G 0), .int p1] : List Value).toArray s 0 0 A) (F0 m 267 ls [])) (n : Nat) (S1 : MS) (y26_4 : Int32) (y26_3 : Int32) (y26_2 : Int32) (H : Heap) (locs : List Loc) (ls : Array Slot), q_GM_work_26 n S1 p1 y26_4 y26_3 y26_2 K26 = some R → va_P D vwCl (wM G S1) H → va_D A (wM G S1) → va_S A s.heap H locs → lv_has ls 7 [(4, .int y26_4), (3, .int y26_3), (2, .int y26_2), (0, .ref (mA G 0)), (1, .int p1)] → W p l e (headSpec ws_GM_work ({ frames := 2, cells := 0, slots := 0, locals := 45 })).room s m ([.ref (mA G 0), .int p1] : List Value).toArray below meth c H locs 0 0 (MQ below (va_Qi (fun (r : Int32) (S' : MS) => (r, S') = R) (wX D G A) A) ([.ref (mA G 0), .int p1] : List Value).toArray s 0 0 A) (F0 m 26 ls []) := by
    intro K26 hexit26 n
    induction n with
    | zero => intro S1 y26_4 y26_3 y26_2 H locs ls hF; exact nomatch (show (none : Option (Int32 × MS)) = some R from hF)
    | succ n ih26 =>
      intro S26 y26_4 y26_3 y26_2 H locs ls hF hP hD hS hl
      rw [q_GM_work_26] at hF
      refine lv_iload_n hx hb d_GM_work_26 rfl (lv_at hl 2 rfl) ?_
      obtain ⟨k58, hk58, hF⟩ := jn_of hF
      have join58 : ∀ (T1 : MS) (H : Heap) (locs : List Loc) (ls : Array Slot), k58 T1 = some R → va_P D vwCl (wM G T1) H → va_D A (wM G T1) → va_S A s.heap H locs → lv_has ls 7 [(4, .int y26_4), (3, .int y26_3), (2, .int y26_2), (0, .ref (mA G 0)), (1, .int p1)] → W p l e (headSpec ws_GM_work ({ frames := 2, cells := 0, slots := 0, locals := 45 })).room s m ([.ref (mA G 0), .int p1] : List Value).toArray below meth c H locs 0 0 (MQ below (va_Qi (fun (r : Int32) (S' : MS) => (r, S') = R) (wX D G A) A) ([.ref (mA G 0), .int p1] : List Value).toArray s 0 0 A) (F0 m 58 ls []) := by
        intro T58 H locs ls hF hP hD hS hl
        rw [hk58] at hF
        refine lv_aload_n hx hb d_GM_work_58 rfl (lv_at hl 3 rfl) ?_
        refine va_get (D := D) (ci := 6) (v := .ref (mA G 1)) (C := R_GM) (T := T_GM) (N := 30) hx hb hts (fun w h => List.mem_cons_of_mem _ (in_GM w h)) hown hK hP 0 (m_0 G T58) rfl 0 (by decide) (hts _ (List.mem_cons_of_mem _ kw444)) (fun _ h9 => h9) rfl d_GM_work_59 ?_
        refine lv_iload hx hb d_GM_work_62 (lv_at hl 0 rfl) ?_
        obtain ⟨g64, hF⟩ := gd_of hF
        refine va_iald (D := D) hx hb hK hP 1 0 (m_1 G T58) rfl (ix_in g64) d_GM_work_64 ?_
        refine lv_topi (fun x64 ex64 => ?_)
        have hF := lt_of hF ex64
        refine lv_istore (lv' := [(5, .int x64), (4, .int y26_4), (3, .int y26_3), (2, .int y26_2), (0, .ref (mA G 0)), (1, .int p1)]) hx hb d_GM_work_65 hl (by decide) rfl (fun ls hl => ?_)
        obtain ⟨x67, ex67⟩ : ∃ y : Int32, y = y26_4 + 1 := ⟨_, rfl⟩
        have hF := lt_of hF ex67
        refine lv_iinc (v := x67) (lv' := [(4, .int x67), (5, .int x64), (3, .int y26_3), (2, .int y26_2), (0, .ref (mA G 0)), (1, .int p1)]) hx hb d_GM_work_67 hl (k := 1) rfl (by rw [ex67]; rfl) (by decide) rfl (fun ls hl => ?_)
        refine lv_iload hx hb d_GM_work_70 (lv_at hl 1 rfl) ?_
        refine lv_bipush (v := 48) hx hb d_GM_work_72 (by decide) ?_
        refine lv_bipush (v := 57) hx hb d_GM_work_74 (by decide) ?_
        refine vp_callSi (W.runS (As := [.int x64, .int 48, .int 57]) (rest := []) ⟨hx, hb, hml, hown, hts⟩ (c_GM_in l x64 48 57) (cwS 3 hts (gS kw510 kw511 kw7 kw512) rfl rfl rfl (by decide +kernel) ⟨by show (0 : Nat) + 1 ≤ 2; omega, by show 8 + (3 + 11) + 0 ≤ 45; omega⟩) ⟨blindNM, fun U hU hW => ⟨rfl, trivial⟩⟩ rfl rfl hl.1 rfl (lv_room (Nat.le_of_ble_eq_true rfl)) d_GM_work_76 ⟨Nat.zero_le _, Nat.zero_le _⟩) (fun x76 ex76 => ?_)
        obtain ⟨ex76, bx76⟩ := ex76
        have hF := lt_of hF ex76
        obtain ⟨k264, hk264, hF⟩ := jn_of hF
        have join264 : ∀ (T1 : MS) (y264_4 : Int32) (y264_3 : Int32) (y264_2 : Int32) (H : Heap) (locs : List Loc) (ls : Array Slot), k264 T1 y264_4 y264_3 y264_2 = some R → va_P D vwCl (wM G T1) H → va_D A (wM G T1) → va_S A s.heap H locs → lv_has ls 7 [(4, .int y264_4), (5, .int x64), (3, .int y264_3), (2, .int y264_2), (0, .ref (mA G 0)), (1, .int p1)] → W p l e (headSpec ws_GM_work ({ frames := 2, cells := 0, slots := 0, locals := 45 })).room s m ([.ref (mA G 0), .int p1] : List Value).toArray below meth c H locs 0 0 (MQ below (va_Qi (fun (r : Int32) (S' : MS) => (r, S') = R) (wX D G A) A) ([.ref (mA G 0), .int p1] : List Value).toArray s 0 0 A) (F0 m 264 ls []) := by
          intro T264 y264_4 y264_3 y264_2 H locs ls hF hP hD hS hl
          rw [hk264] at hF
          refine lv_goto (tgt := 26) hx hb d_GM_work_264 (by decide) ?_
          exact ih26 T264 y264_4 y264_3 y264_2 _ _ ls hF hP hD hS (lv_sub hl [0, 2, 3, 4, 5] rfl)
        refine lv_if_eq (tgt := 142) hx hb d_GM_work_79 (by decide) (fun c_79 => ?_) (fun c_79 => ?_)
        · have hF := ps_of c_79 hF
          refine lv_iload hx hb d_GM_work_142 (lv_at hl 1 rfl) ?_
          refine vp_callSi (W.runS (As := [.int x64]) (rest := []) ⟨hx, hb, hml, hown, hts⟩ (c_GM_isVariable l x64) (cwS 1 hts (gS kw536 kw537 kw7 kw538) rfl rfl rfl (by decide +kernel) ⟨by show (1 : Nat) + 1 ≤ 2; omega, by show 8 + (1 + 11) + 22 ≤ 45; omega⟩) ⟨blindNM, fun U hU hW => ⟨rfl, trivial⟩⟩ rfl rfl hl.1 rfl (lv_room (Nat.le_of_ble_eq_true rfl)) d_GM_work_144 ⟨Nat.zero_le _, Nat.zero_le _⟩) (fun x144 ex144 => ?_)
          obtain ⟨ex144, bx144⟩ := ex144
          have hF := lt_of hF ex144
          refine lv_if_eq (tgt := 170) hx hb d_GM_work_147 (by decide) (fun c_147 => ?_) (fun c_147 => ?_)
          · have hF := ps_of c_147 hF
            refine lv_iload hx hb d_GM_work_170 (lv_at hl 1 rfl) ?_
            refine lv_bipush (v := 40) hx hb d_GM_work_172 (by decide) ?_
            refine lv_icmp_ne (tgt := 200) hx hb d_GM_work_174 (by decide) (fun c_174 => ?_) (fun c_174 => ?_)
            · have hF := ng_of c_174 hF
              refine lv_iload hx hb d_GM_work_200 (lv_at hl 1 rfl) ?_
              refine lv_bipush (v := 41) hx hb d_GM_work_202 (by decide) ?_
              refine lv_icmp_ne (tgt := 226) hx hb d_GM_work_204 (by decide) (fun c_204 => ?_) (fun c_204 => ?_)
              · have hF := ng_of c_204 hF
                refine lv_iload_n hx hb d_GM_work_226 rfl (lv_at hl 2 rfl) ?_
                refine lv_if_eq (tgt := 254) hx hb d_GM_work_227 (by decide) (fun c_227 => ?_) (fun c_227 => ?_)
                · have hF := ps_of c_227 hF
                  refine lv_aload_n hx hb d_GM_work_254 rfl (lv_at hl 4 rfl) ?_
                  refine va_get (D := D) (ci := 6) (v := .ref (mA G 16)) (C := R_GM) (T := T_GM) (N := 30) hx hb hts (fun w h => List.mem_cons_of_mem _ (in_GM w h)) hown hK hP 0 (m_0 G T58) rfl 25 (by decide) (hts _ (List.mem_cons_of_mem _ kw469)) (fun _ h9 => h9) rfl d_GM_work_255 ?_
                  refine lv_iload_n hx hb d_GM_work_258 rfl (lv_at hl 3 rfl) ?_
                  refine lv_iload hx hb d_GM_work_259 (lv_at hl 1 rfl) ?_
                  obtain ⟨g261, hF⟩ := gd_of hF
                  refine va_iastE (D := D) hx hb hK hP hD hS 16 0 (m_16 G T58) rfl (ix_in g261) (msta_16 G T58 y26_2.toNatClampNeg x64) d_GM_work_261 (fun H locs hP hD hS => ?_)
                  obtain ⟨S261, eS261⟩ : ∃ y : MS, y = stM T58 16 y26_2.toNatClampNeg x64 := ⟨_, rfl⟩
                  rw [← eS261] at hP hD
                  have hF := lt_of hF eS261
                  refine lv_iconst (v := 1) hx hb d_GM_work_262 (by decide) ?_
                  refine lv_istore_n (lv' := [(3, .int 1), (4, .int x67), (5, .int x64), (2, .int y26_2), (0, .ref (mA G 0)), (1, .int p1)]) hx hb d_GM_work_263 rfl hl (by decide) rfl (fun ls hl => ?_)
                  exact join264 S261 x67 1 y26_2 _ _ ls hF hP hD hS (lv_sub hl [1, 2, 0, 3, 4, 5] rfl)
                · have hF := ng_of c_227 hF
                  refine lv_aload_n hx hb d_GM_work_230 rfl (lv_at hl 4 rfl) ?_
                  refine va_get (D := D) (ci := 6) (v := .ref (mA G 18)) (C := R_GM) (T := T_GM) (N := 30) hx hb hts (fun w h => List.mem_cons_of_mem _ (in_GM w h)) hown hK hP 0 (m_0 G T58) rfl 27 (by decide) (hts _ (List.mem_cons_of_mem _ kw471)) (fun _ h9 => h9) rfl d_GM_work_231 ?_
                  refine lv_aload_n hx hb d_GM_work_234 rfl (lv_at hl 4 rfl) ?_
                  refine va_get (D := D) (ci := 6) (v := .int (T58 0 28)) (C := R_GM) (T := T_GM) (N := 30) hx hb hts (fun w h => List.mem_cons_of_mem _ (in_GM w h)) hown hK hP 0 (m_0 G T58) rfl 28 (by decide) (hts _ (List.mem_cons_of_mem _ kw472)) (fun _ h9 => h9) rfl d_GM_work_235 ?_
                  refine lv_iload hx hb d_GM_work_238 (lv_at hl 1 rfl) ?_
                  obtain ⟨g240, hF⟩ := gd_of hF
                  refine va_iastE (D := D) hx hb hK hP hD hS 18 0 (m_18 G T58) rfl (ix_in g240) (msta_18 G T58 (T58 0 28).toNatClampNeg x64) d_GM_work_240 (fun H locs hP hD hS => ?_)
                  obtain ⟨S240, eS240⟩ : ∃ y : MS, y = stM T58 18 (T58 0 28).toNatClampNeg x64 := ⟨_, rfl⟩
                  rw [← eS240] at hP hD
                  have hF := lt_of hF eS240
                  refine lv_aload_n hx hb d_GM_work_241 rfl (lv_at hl 4 rfl) ?_
                  refine lv_dup hx hb d_GM_work_242 rfl ?_
                  refine va_get (D := D) (ci := 6) (v := .int (S240 0 28)) (C := R_GM) (T := T_GM) (N := 30) hx hb hts (fun w h => List.mem_cons_of_mem _ (in_GM w h)) hown hK hP 0 (m_0 G S240) rfl 28 (by decide) (hts _ (List.mem_cons_of_mem _ kw472)) (fun _ h9 => h9) rfl d_GM_work_243 ?_
                  refine lv_iconst (v := 1) hx hb d_GM_work_246 (by decide) ?_
                  refine lv_iadd hx hb d_GM_work_247 ?_
                  refine lv_topi (fun x247 ex247 => ?_)
                  have hF := lt_of hF ex247
                  refine va_putE (D := D) (ci := 6) (v := .int x247) (ty := .int) (C := R_GM) (T := T_GM) (N := 30) hx hb hts (fun w h => List.mem_cons_of_mem _ (in_GM w h)) t_GM t_GM_ok n_GM hown hK hP hD hS 0 (m_0 G S240) rfl 28 (by decide) (hts _ (List.mem_cons_of_mem _ kw472)) (fun _ h9 => h9) rfl (by decide +kernel) rfl rfl (Nat.le_of_ble_eq_true rfl) (mst_28 G S240 x247) d_GM_work_248 (fun H locs hP hD hS => ?_)
                  obtain ⟨S248, eS248⟩ : ∃ y : MS, y = stM S240 0 28 x247 := ⟨_, rfl⟩
                  rw [← eS248] at hP hD
                  have hF := lt_of hF eS248
                  refine lv_goto (tgt := 264) hx hb d_GM_work_251 (by decide) ?_
                  exact join264 S248 x67 y26_3 y26_2 _ _ ls hF hP hD hS (lv_sub hl [0, 1, 2, 3, 4, 5] rfl)
              · have hF := ps_of c_204 hF
                obtain ⟨x207, ex207⟩ : ∃ y : Int32, y = y26_2 + (-1) := ⟨_, rfl⟩
                have hF := lt_of hF ex207
                refine lv_iinc (v := x207) (lv' := [(2, .int x207), (4, .int x67), (5, .int x64), (3, .int y26_3), (0, .ref (mA G 0)), (1, .int p1)]) hx hb d_GM_work_207 hl (k := 3) rfl (by rw [ex207]; rfl) (by decide) rfl (fun ls hl => ?_)
                refine lv_aload_n hx hb d_GM_work_210 rfl (lv_at hl 4 rfl) ?_
                refine lv_iload_n hx hb d_GM_work_211 rfl (lv_at hl 0 rfl) ?_
                refine lv_aload_n hx hb d_GM_work_212 rfl (lv_at hl 4 rfl) ?_
                refine va_get (D := D) (ci := 6) (v := .ref (mA G 15)) (C := R_GM) (T := T_GM) (N := 30) hx hb hts (fun w h => List.mem_cons_of_mem _ (in_GM w h)) hown hK hP 0 (m_0 G T58) rfl 24 (by decide) (hts _ (List.mem_cons_of_mem _ kw468)) (fun _ h9 => h9) rfl d_GM_work_213 ?_
                refine lv_iload_n hx hb d_GM_work_216 rfl (lv_at hl 0 rfl) ?_
                refine lv_iconst (v := 1) hx hb d_GM_work_217 (by decide) ?_
                refine lv_iadd hx hb d_GM_work_218 ?_
                refine lv_topi (fun x218 ex218 => ?_)
                have hF := lt_of hF ex218
                obtain ⟨g219, hF⟩ := gd_of hF
                refine va_iald (D := D) hx hb hK hP 15 0 (m_15 G T58) rfl (ix_in g219) d_GM_work_219 ?_
                refine lv_topi (fun x219 ex219 => ?_)
                have hF := lt_of hF ex219
                obtain ⟨S220, hq220, hF⟩ := bd_of hF
                refine dq_v (va_runV (As := [.int x207, .int x219]) (rest := []) ⟨hx, hb, hml, hown, hts⟩ (c_GM_operand l D G T58 _ x207 x219 S220 hq220) (cwV 2 hts (gV kw589 kw590 kw666 kw7 kw591) rfl rfl rfl (by decide +kernel) ⟨by show (1 : Nat) + 1 ≤ 2; omega, by show 8 + (4 + 11) + 22 ≤ 45; omega⟩) ⟨blindM, va_recv (ci := 6) (q0 := 0) hK hP rfl (m_0 G T58), fun U hU hW => ⟨rfl, mPre_of hP hK hD hU hW⟩⟩ rfl rfl hl.1 rfl (lv_room (Nat.le_of_ble_eq_true rfl)) d_GM_work_220 ⟨Nat.zero_le _, Nat.zero_le _⟩) hD hS hA (fun rS220 H locs hw hP hD hS => ?_)
                have hw := hw.symm
                subst hw
                refine lv_goto (tgt := 264) hx hb d_GM_work_223 (by decide) ?_
                exact join264 S220 x67 y26_3 x207 _ _ ls hF hP hD hS (lv_sub hl [1, 2, 3, 0, 4, 5] rfl)
            · have hF := ps_of c_174 hF
              obtain ⟨x177, ex177⟩ : ∃ y : Int32, y = y26_2 + 1 := ⟨_, rfl⟩
              have hF := lt_of hF ex177
              refine lv_iinc (v := x177) (lv' := [(2, .int x177), (4, .int x67), (5, .int x64), (3, .int y26_3), (0, .ref (mA G 0)), (1, .int p1)]) hx hb d_GM_work_177 hl (k := 3) rfl (by rw [ex177]; rfl) (by decide) rfl (fun ls hl => ?_)
              refine lv_aload_n hx hb d_GM_work_180 rfl (lv_at hl 4 rfl) ?_
              refine va_get (D := D) (ci := 6) (v := .ref (mA G 17)) (C := R_GM) (T := T_GM) (N := 30) hx hb hts (fun w h => List.mem_cons_of_mem _ (in_GM w h)) hown hK hP 0 (m_0 G T58) rfl 26 (by decide) (hts _ (List.mem_cons_of_mem _ kw470)) (fun _ h9 => h9) rfl d_GM_work_181 ?_
              refine lv_iload_n hx hb d_GM_work_184 rfl (lv_at hl 0 rfl) ?_
              refine lv_aload_n hx hb d_GM_work_185 rfl (lv_at hl 4 rfl) ?_
              refine va_get (D := D) (ci := 6) (v := .int (T58 0 28)) (C := R_GM) (T := T_GM) (N := 30) hx hb hts (fun w h => List.mem_cons_of_mem _ (in_GM w h)) hown hK hP 0 (m_0 G T58) rfl 28 (by decide) (hts _ (List.mem_cons_of_mem _ kw472)) (fun _ h9 => h9) rfl d_GM_work_186 ?_
              obtain ⟨g189, hF⟩ := gd_of hF
              refine va_iastE (D := D) hx hb hK hP hD hS 17 0 (m_17 G T58) rfl (ix_in g189) (msta_17 G T58 x177.toNatClampNeg (T58 0 28)) d_GM_work_189 (fun H locs hP hD hS => ?_)
              obtain ⟨S189, eS189⟩ : ∃ y : MS, y = stM T58 17 x177.toNatClampNeg (T58 0 28) := ⟨_, rfl⟩
              rw [← eS189] at hP hD
              have hF := lt_of hF eS189
              refine lv_aload_n hx hb d_GM_work_190 rfl (lv_at hl 4 rfl) ?_
              refine va_get (D := D) (ci := 6) (v := .ref (mA G 16)) (C := R_GM) (T := T_GM) (N := 30) hx hb hts (fun w h => List.mem_cons_of_mem _ (in_GM w h)) hown hK hP 0 (m_0 G S189) rfl 25 (by decide) (hts _ (List.mem_cons_of_mem _ kw469)) (fun _ h9 => h9) rfl d_GM_work_191 ?_
              refine lv_iload_n hx hb d_GM_work_194 rfl (lv_at hl 0 rfl) ?_
              refine lv_iconst (v := 0) hx hb d_GM_work_195 (by decide) ?_
              obtain ⟨g196, hF⟩ := gd_of hF
              refine va_iastE (D := D) hx hb hK hP hD hS 16 0 (m_16 G S189) rfl (ix_in g196) (msta_16 G S189 x177.toNatClampNeg 0) d_GM_work_196 (fun H locs hP hD hS => ?_)
              obtain ⟨S196, eS196⟩ : ∃ y : MS, y = stM S189 16 x177.toNatClampNeg 0 := ⟨_, rfl⟩
              rw [← eS196] at hP hD
              have hF := lt_of hF eS196
              refine lv_goto (tgt := 264) hx hb d_GM_work_197 (by decide) ?_
              exact join264 S196 x67 y26_3 x177 _ _ ls hF hP hD hS (lv_sub hl [1, 2, 3, 0, 4, 5] rfl)
          · have hF := ng_of c_147 hF
            refine lv_aload_n hx hb d_GM_work_150 rfl (lv_at hl 4 rfl) ?_
            refine lv_iload_n hx hb d_GM_work_151 rfl (lv_at hl 3 rfl) ?_
            refine lv_aload_n hx hb d_GM_work_152 rfl (lv_at hl 4 rfl) ?_
            refine va_get (D := D) (ci := 6) (v := .ref (mA G 12)) (C := R_GM) (T := T_GM) (N := 30) hx hb hts (fun w h => List.mem_cons_of_mem _ (in_GM w h)) hown hK hP 0 (m_0 G T58) rfl 17 (by decide) (hts _ (List.mem_cons_of_mem _ kw461)) (fun _ h9 => h9) rfl d_GM_work_153 ?_
            refine lv_iload hx hb d_GM_work_156 (lv_at hl 1 rfl) ?_
            refine lv_bipush (v := 97) hx hb d_GM_work_158 (by decide) ?_
            refine lv_isub hx hb d_GM_work_160 ?_
            refine lv_topi (fun x160 ex160 => ?_)
            have hF := lt_of hF ex160
            obtain ⟨g161, hF⟩ := gd_of hF
            refine va_iald (D := D) hx hb hK hP 12 0 (m_12 G T58) rfl (ix_in g161) d_GM_work_161 ?_
            refine lv_topi (fun x161 ex161 => ?_)
            have hF := lt_of hF ex161
            obtain ⟨S162, hq162, hF⟩ := bd_of hF
            refine dq_v (va_runV (As := [.int y26_2, .int x161]) (rest := []) ⟨hx, hb, hml, hown, hts⟩ (c_GM_operand l D G T58 _ y26_2 x161 S162 hq162) (cwV 2 hts (gV kw589 kw590 kw666 kw7 kw591) rfl rfl rfl (by decide +kernel) ⟨by show (1 : Nat) + 1 ≤ 2; omega, by show 8 + (4 + 11) + 22 ≤ 45; omega⟩) ⟨blindM, va_recv (ci := 6) (q0 := 0) hK hP rfl (m_0 G T58), fun U hU hW => ⟨rfl, mPre_of hP hK hD hU hW⟩⟩ rfl rfl hl.1 rfl (lv_room (Nat.le_of_ble_eq_true rfl)) d_GM_work_162 ⟨Nat.zero_le _, Nat.zero_le _⟩) hD hS hA (fun rS162 H locs hw hP hD hS => ?_)
            have hw := hw.symm
            subst hw
            refine lv_iconst (v := 0) hx hb d_GM_work_165 (by decide) ?_
            refine lv_istore_n (lv' := [(3, .int 0), (4, .int x67), (5, .int x64), (2, .int y26_2), (0, .ref (mA G 0)), (1, .int p1)]) hx hb d_GM_work_166 rfl hl (by decide) rfl (fun ls hl => ?_)
            refine lv_goto (tgt := 264) hx hb d_GM_work_167 (by decide) ?_
            exact join264 S162 x67 0 y26_2 _ _ ls hF hP hD hS (lv_sub hl [1, 2, 0, 3, 4, 5] rfl)
        · have hF := ng_of c_79 hF
          refine lv_iload hx hb d_GM_work_82 (lv_at hl 1 rfl) ?_
          refine lv_bipush (v := 48) hx hb d_GM_work_84 (by decide) ?_
          refine lv_isub hx hb d_GM_work_86 ?_
          refine lv_topi (fun x86 ex86 => ?_)
          have hF := lt_of hF ex86
          refine lv_istore (lv' := [(6, .int x86), (4, .int x67), (5, .int x64), (3, .int y26_3), (2, .int y26_2), (0, .ref (mA G 0)), (1, .int p1)]) hx hb d_GM_work_87 hl (by decide) rfl (fun ls hl => ?_)
          have loop89 : ∀ (K89 : MS → Int32 → Int32 → Option (Int32 × MS)) (hexit : ∀ (S1 : MS) (y89_6 : Int32) (y89_4 : Int32) (H : Heap) (locs : List Loc) (ls : Array Slot), K89 S1 y89_6 y89_4 = some R → va_P D vwCl (wM G S1) H → va_D A (wM G S1) → va_S A s.heap H locs → lv_has ls 7 [(6, .int y89_6), (4, .int y89_4), (5, .int x64), (3, .int y26_3), (2, .int y26_2), (0, .ref (mA G 0)), (1, .int p1)] → W p l e (headSpec ws_GM_work ({ frames := 2, cells := 0, slots := 0, locals := 45 })).room s m ([.ref (mA G 0), .int p1] : List Value).toArray below meth c H locs 0 0 (MQ below (va_Qi (fun (r : Int32) (S' : MS) => (r, S') = R) (wX D G A) A) ([.ref (mA G 0), .int p1] : List Value).toArray s 0 0 A) (F0 m 130 ls [])) (n : Nat) (S1 : MS) (y89_6 : Int32) (y89_4 : Int32) (H : Heap) (locs : List Loc) (ls : Array Slot), q_GM_work_89 n S1 x64 y26_3 y26_2 p1 y89_6 y89_4 K89 = some R → va_P D vwCl (wM G S1) H → va_D A (wM G S1) → va_S A s.heap H locs → lv_has ls 7 [(6, .int y89_6), (4, .int y89_4), (5, .int x64), (3, .int y26_3), (2, .int y26_2), (0, .ref (mA G 0)), (1, .int p1)] → W p l e (headSpec ws_GM_work ({ frames := 2, cells := 0, slots := 0, locals := 45 })).room s m ([.ref (mA G 0), .int p1] : List Value).toArray below meth c H locs 0 0 (MQ below (va_Qi (fun (r : Int32) (S' : MS) => (r, S') = R) (wX D G A) A) ([.ref (mA G 0), .int p1] : List Value).toArray s 0 0 A) (F0 m 89 ls []) := by
            intro K89 hexit89 n
            induction n with
            | zero => intro S1 y89_6 y89_4 H locs ls hF; exact nomatch (show (none : Option (Int32 × MS)) = some R from hF)
            | succ n ih89 =>
              intro S89 y89_6 y89_4 H locs ls hF hP hD hS hl
              rw [q_GM_work_89] at hF
              refine lv_aload_n hx hb d_GM_work_89 rfl (lv_at hl 5 rfl) ?_
              refine va_get (D := D) (ci := 6) (v := .ref (mA G 1)) (C := R_GM) (T := T_GM) (N := 30) hx hb hts (fun w h => List.mem_cons_of_mem _ (in_GM w h)) hown hK hP 0 (m_0 G S89) rfl 0 (by decide) (hts _ (List.mem_cons_of_mem _ kw444)) (fun _ h9 => h9) rfl d_GM_work_90 ?_
              refine lv_iload hx hb d_GM_work_93 (lv_at hl 1 rfl) ?_
              obtain ⟨g95, hF⟩ := gd_of hF
              refine va_iald (D := D) hx hb hK hP 1 0 (m_1 G S89) rfl (ix_in g95) d_GM_work_95 ?_
              refine lv_topi (fun x95 ex95 => ?_)
              have hF := lt_of hF ex95
              refine lv_bipush (v := 48) hx hb d_GM_work_96 (by decide) ?_
              refine lv_bipush (v := 57) hx hb d_GM_work_98 (by decide) ?_
              refine vp_callSi (W.runS (As := [.int x95, .int 48, .int 57]) (rest := []) ⟨hx, hb, hml, hown, hts⟩ (c_GM_in l x95 48 57) (cwS 3 hts (gS kw510 kw511 kw7 kw512) rfl rfl rfl (by decide +kernel) ⟨by show (0 : Nat) + 1 ≤ 2; omega, by show 8 + (3 + 11) + 0 ≤ 45; omega⟩) ⟨blindNM, fun U hU hW => ⟨rfl, trivial⟩⟩ rfl rfl hl.1 rfl (lv_room (Nat.le_of_ble_eq_true rfl)) d_GM_work_100 ⟨Nat.zero_le _, Nat.zero_le _⟩) (fun x100 ex100 => ?_)
              obtain ⟨ex100, bx100⟩ := ex100
              have hF := lt_of hF ex100
              refine lv_if_eq (tgt := 130) hx hb d_GM_work_103 (by decide) (fun c_103 => ?_) (fun c_103 => ?_)
              · have hF := ps_of c_103 hF
                exact hexit89 S89 y89_6 y89_4 _ _ ls hF hP hD hS (lv_sub hl [0, 1, 2, 3, 4, 5, 6] rfl)
              · have hF := ng_of c_103 hF
                refine lv_bipush (v := 10) hx hb d_GM_work_106 (by decide) ?_
                refine lv_iload hx hb d_GM_work_108 (lv_at hl 0 rfl) ?_
                refine lv_imul hx hb d_GM_work_110 ?_
                refine lv_topi (fun x110 ex110 => ?_)
                have hF := lt_of hF ex110
                refine lv_aload_n hx hb d_GM_work_111 rfl (lv_at hl 5 rfl) ?_
                refine va_get (D := D) (ci := 6) (v := .ref (mA G 1)) (C := R_GM) (T := T_GM) (N := 30) hx hb hts (fun w h => List.mem_cons_of_mem _ (in_GM w h)) hown hK hP 0 (m_0 G S89) rfl 0 (by decide) (hts _ (List.mem_cons_of_mem _ kw444)) (fun _ h9 => h9) rfl d_GM_work_112 ?_
                refine lv_iload hx hb d_GM_work_115 (lv_at hl 1 rfl) ?_
                obtain ⟨g117, hF⟩ := gd_of hF
                refine va_iald (D := D) hx hb hK hP 1 0 (m_1 G S89) rfl (ix_in g117) d_GM_work_117 ?_
                refine lv_topi (fun x117 ex117 => ?_)
                have hF := lt_of hF ex117
                refine lv_iadd hx hb d_GM_work_118 ?_
                refine lv_topi (fun x118 ex118 => ?_)
                have hF := lt_of hF ex118
                refine lv_bipush (v := 48) hx hb d_GM_work_119 (by decide) ?_
                refine lv_isub hx hb d_GM_work_121 ?_
                refine lv_topi (fun x121 ex121 => ?_)
                have hF := lt_of hF ex121
                refine lv_istore (lv' := [(6, .int x121), (4, .int y89_4), (5, .int x64), (3, .int y26_3), (2, .int y26_2), (0, .ref (mA G 0)), (1, .int p1)]) hx hb d_GM_work_122 hl (by decide) rfl (fun ls hl => ?_)
                obtain ⟨x124, ex124⟩ : ∃ y : Int32, y = y89_4 + 1 := ⟨_, rfl⟩
                have hF := lt_of hF ex124
                refine lv_iinc (v := x124) (lv' := [(4, .int x124), (6, .int x121), (5, .int x64), (3, .int y26_3), (2, .int y26_2), (0, .ref (mA G 0)), (1, .int p1)]) hx hb d_GM_work_124 hl (k := 1) rfl (by rw [ex124]; rfl) (by decide) rfl (fun ls hl => ?_)
                refine lv_goto (tgt := 89) hx hb d_GM_work_127 (by decide) ?_
                exact ih89 S89 x121 x124 _ _ ls hF hP hD hS (lv_sub hl [1, 0, 2, 3, 4, 5, 6] rfl)
          refine loop89 _ ?_ (fz 2000) T58 x86 x67 _ _ ls hF hP hD hS hl
          intro S130 y130_6 y130_4 H locs ls hF hP hD hS hl
          refine lv_aload_n hx hb d_GM_work_130 rfl (lv_at hl 5 rfl) ?_
          refine lv_iload_n hx hb d_GM_work_131 rfl (lv_at hl 4 rfl) ?_
          refine lv_iload hx hb d_GM_work_132 (lv_at hl 0 rfl) ?_
          obtain ⟨S134, hq134, hF⟩ := bd_of hF
          refine dq_v (va_runV (As := [.int y26_2, .int y130_6]) (rest := []) ⟨hx, hb, hml, hown, hts⟩ (c_GM_operand l D G S130 _ y26_2 y130_6 S134 hq134) (cwV 2 hts (gV kw589 kw590 kw666 kw7 kw591) rfl rfl rfl (by decide +kernel) ⟨by show (1 : Nat) + 1 ≤ 2; omega, by show 8 + (4 + 11) + 22 ≤ 45; omega⟩) ⟨blindM, va_recv (ci := 6) (q0 := 0) hK hP rfl (m_0 G S130), fun U hU hW => ⟨rfl, mPre_of hP hK hD hU hW⟩⟩ rfl rfl hl.1 rfl (lv_room (Nat.le_of_ble_eq_true rfl)) d_GM_work_134 ⟨Nat.zero_le _, Nat.zero_le _⟩) hD hS hA (fun rS134 H locs hw hP hD hS => ?_)
          have hw := hw.symm
          subst hw
          refine lv_iconst (v := 0) hx hb d_GM_work_137 (by decide) ?_
          refine lv_istore_n (lv' := [(3, .int 0), (6, .int y130_6), (4, .int y130_4), (5, .int x64), (2, .int y26_2), (0, .ref (mA G 0)), (1, .int p1)]) hx hb d_GM_work_138 rfl hl (by decide) rfl (fun ls hl => ?_)
          refine lv_goto (tgt := 264) hx hb d_GM_work_139 (by decide) ?_
          exact join264 S134 y130_4 0 y26_2 _ _ ls hF hP hD hS (lv_sub hl [2, 3, 0, 4, 5, 6] rfl)
      refine lv_if_gt (tgt := 58) hx hb d_GM_work_27 (by decide) (fun c_27 => ?_) (fun c_27 => ?_)
      · have hF := ps_of c_27 hF
        exact join58 S26 _ _ ls hF hP hD hS (lv_sub hl [0, 1, 2, 3, 4] rfl)
      · have hF := ng_of c_27 hF
        refine lv_iload_n hx hb d_GM_work_30 rfl (lv_at hl 1 rfl) ?_
        refine lv_if_ne (tgt := 58) hx hb d_GM_work_31 (by decide) (fun c_31 => ?_) (fun c_31 => ?_)
        · have hF := ng_of c_31 hF
          exact join58 S26 _ _ ls hF hP hD hS (lv_sub hl [0, 1, 2, 3, 4] rfl)
        · have hF := ps_of c_31 hF
          refine lv_aload_n hx hb d_GM_work_34 rfl (lv_at hl 3 rfl) ?_
          refine va_get (D := D) (ci := 6) (v := .ref (mA G 1)) (C := R_GM) (T := T_GM) (N := 30) hx hb hts (fun w h => List.mem_cons_of_mem _ (in_GM w h)) hown hK hP 0 (m_0 G S26) rfl 0 (by decide) (hts _ (List.mem_cons_of_mem _ kw444)) (fun _ h9 => h9) rfl d_GM_work_35 ?_
          refine lv_iload hx hb d_GM_work_38 (lv_at hl 0 rfl) ?_
          obtain ⟨g40, hF⟩ := gd_of hF
          refine va_iald (D := D) hx hb hK hP 1 0 (m_1 G S26) rfl (ix_in g40) d_GM_work_40 ?_
          refine lv_topi (fun x40 ex40 => ?_)
          have hF := lt_of hF ex40
          refine lv_bipush (v := 59) hx hb d_GM_work_41 (by decide) ?_
          refine lv_icmp_eq (tgt := 267) hx hb d_GM_work_43 (by decide) (fun c_43 => ?_) (fun c_43 => ?_)
          · have hF := ps_of c_43 hF
            exact hexit26 S26 y26_4 y26_3 y26_2 _ _ ls hF hP hD hS (lv_sub hl [0, 1, 2, 3, 4] rfl)
          · have hF := ng_of c_43 hF
            refine lv_aload_n hx hb d_GM_work_46 rfl (lv_at hl 3 rfl) ?_
            refine va_get (D := D) (ci := 6) (v := .ref (mA G 1)) (C := R_GM) (T := T_GM) (N := 30) hx hb hts (fun w h => List.mem_cons_of_mem _ (in_GM w h)) hown hK hP 0 (m_0 G S26) rfl 0 (by decide) (hts _ (List.mem_cons_of_mem _ kw444)) (fun _ h9 => h9) rfl d_GM_work_47 ?_
            refine lv_iload hx hb d_GM_work_50 (lv_at hl 0 rfl) ?_
            obtain ⟨g52, hF⟩ := gd_of hF
            refine va_iald (D := D) hx hb hK hP 1 0 (m_1 G S26) rfl (ix_in g52) d_GM_work_52 ?_
            refine lv_topi (fun x52 ex52 => ?_)
            have hF := lt_of hF ex52
            refine lv_bipush (v := 123) hx hb d_GM_work_53 (by decide) ?_
            refine lv_icmp_eq (tgt := 267) hx hb d_GM_work_55 (by decide) (fun c_55 => ?_) (fun c_55 => ?_)
            · have hF := ps_of c_55 hF
              exact hexit26 S26 y26_4 y26_3 y26_2 _ _ ls hF hP hD hS (lv_sub hl [0, 1, 2, 3, 4] rfl)
            · have hF := ng_of c_55 hF
              exact join58 S26 _ _ ls hF hP hD hS (lv_sub hl [0, 1, 2, 3, 4] rfl)
  refine loop26 _ ?_ (fz 2000) S22 p1 1 0 _ _ ls hF hP hD hS hl
  intro S267 y267_4 y267_3 y267_2 H locs ls hF hP hD hS hl
  refine lv_aload_n hx hb d_GM_work_267 rfl (lv_at hl 3 rfl) ?_
  refine lv_iload hx hb d_GM_work_268 (lv_at hl 0 rfl) ?_
  refine va_putE (D := D) (ci := 6) (v := .int y267_4) (ty := .int) (C := R_GM) (T := T_GM) (N := 30) hx hb hts (fun w h => List.mem_cons_of_mem _ (in_GM w h)) t_GM t_GM_ok n_GM hown hK hP hD hS 0 (m_0 G S267) rfl 29 (by decide) (hts _ (List.mem_cons_of_mem _ kw473)) (fun _ h9 => h9) rfl (by decide +kernel) rfl rfl (Nat.le_of_ble_eq_true rfl) (mst_29 G S267 y267_4) d_GM_work_270 (fun H locs hP hD hS => ?_)
  obtain ⟨S270, eS270⟩ : ∃ y : MS, y = stM S267 0 29 y267_4 := ⟨_, rfl⟩
  rw [← eS270] at hP hD
  have hF := lt_of hF eS270
  refine lv_aload_n hx hb d_GM_work_273 rfl (lv_at hl 3 rfl) ?_
  refine va_get (D := D) (ci := 6) (v := .ref (mA G 15)) (C := R_GM) (T := T_GM) (N := 30) hx hb hts (fun w h => List.mem_cons_of_mem _ (in_GM w h)) hown hK hP 0 (m_0 G S270) rfl 24 (by decide) (hts _ (List.mem_cons_of_mem _ kw468)) (fun _ h9 => h9) rfl d_GM_work_274 ?_
  refine lv_iconst (v := 0) hx hb d_GM_work_277 (by decide) ?_
  obtain ⟨g278, hF⟩ := gd_of hF
  refine va_iald (D := D) hx hb hK hP 15 0 (m_15 G S270) rfl (ix_in g278) d_GM_work_278 ?_
  refine lv_topi (fun x278 ex278 => ?_)
  have hF := lt_of hF ex278
  exact W.iret (v := x278) hx hb hr (fun t ht hW => ⟨⟨x278, S270, rfl, Option.some.inj hF, by rw [ht]; exact hP, hD⟩, hS.F ht⟩) hS.2.2 d_GM_work_279
set_option maxHeartbeats 4000000 in
set_option maxRecDepth 100000 in
theorem c_GM_settle (l : Launch) (D : va_G) (G : MP) (S : MS) (sz : Nat) (R : MS) (hF : f_GM_settle S  = some R) : Met l y_GM_settle ws_GM_settle ({ frames := 0, cells := 0, slots := 0, locals := 0 }) (va_Pc [.ref (mA G 0)] (mPre D G S sz)) (va_Qv (fun S' : MS => S' = R) (wX D G (va_A (wM G S) sz)) (va_A (wM G S) sz)) 0 0 (va_A (wM G S) sz) := by
  refine Met.ofW (cc := b_GM_settle) (maxL := 3) (ret := none) (by decide) rfl ?_
  intro p e s m args below meth c s₁ B hml hv
  obtain ⟨rfl, hsz, hP, hK, hD0⟩ := hv
  have hx := B.exec
  have hb := B.bytes
  have hr := B.returns
  have hts := atoms_spec (ws := ws_GM_settle) B.pre
  have hown : s.vm.findClass R_GM = some m.cls := findClass_of_methodNamed B.named
  have hlocks := B.notSynchronized
  subst hsz
  have hD := hD0.self (sz := s.heap.size)
  generalize hAe : va_A (wM G S) s.heap.size = A at hD ⊢
  have hA : ∀ q : Nat, s.heap.size ≤ q → A q := fun q h => by rw [← hAe]; exact Or.inr h
  have hS : va_S A s.heap s.heap [] := va_S.rf
  have hl := lv_entry ([.ref (mA G 0)]) (n := 3) (Nat.le_of_ble_eq_true rfl)
  rw [lg_entry_eq]
  generalize (lg_sl ([.ref (mA G 0)]) ++ List.replicate (3 - (lg_sl ([.ref (mA G 0)])).length) Slot.unset).toArray = ls at hl ⊢
  have hl : lv_has ls 3 [(0, .ref (mA G 0))] := hl
  unfold f_GM_settle at hF
  have loop0 : ∀ (K0 : MS → Option MS) (hexit : ∀ (S1 : MS) (H : Heap) (locs : List Loc) (ls : Array Slot), K0 S1 = some R → va_P D vwCl (wM G S1) H → va_D A (wM G S1) → va_S A s.heap H locs → lv_has ls 3 [(0, .ref (mA G 0))] → W p l e (headSpec ws_GM_settle ({ frames := 0, cells := 0, slots := 0, locals := 0 })).room s m ([.ref (mA G 0)] : List Value).toArray below meth c H locs 0 0 (MQ below (va_Qv (fun S' : MS => S' = R) (wX D G A) A) ([.ref (mA G 0)] : List Value).toArray s 0 0 A) (F0 m 159 ls [])) (n : Nat) (S1 : MS) (H : Heap) (locs : List Loc) (ls : Array Slot), q_GM_settle_0 n S1 K0 = some R → va_P D vwCl (wM G S1) H → va_D A (wM G S1) → va_S A s.heap H locs → lv_has ls 3 [(0, .ref (mA G 0))] → W p l e (headSpec ws_GM_settle ({ frames := 0, cells := 0, slots := 0, locals := 0 })).room s m ([.ref (mA G 0)] : List Value).toArray below meth c H locs 0 0 (MQ below (va_Qv (fun S' : MS => S' = R) (wX D G A) A) ([.ref (mA G 0)] : List Value).toArray s 0 0 A) (F0 m 0 ls []) := by
    intro K0 hexit0 n
    induction n with
    | zero => intro S1 H locs ls hF; exact nomatch (show (none : Option MS) = some R from hF)
    | succ n ih0 =>
      intro S0 H locs ls hF hP hD hS hl
      rw [q_GM_settle_0] at hF
      refine lv_aload_n hx hb d_GM_settle_0 rfl (lv_at hl 0 rfl) ?_
      refine va_get (D := D) (ci := 6) (v := .int (S0 0 20)) (C := R_GM) (T := T_GM) (N := 30) hx hb hts (fun w h => List.mem_cons_of_mem _ (in_GM w h)) hown hK hP 0 (m_0 G S0) rfl 20 (by decide) (hts _ (List.mem_cons_of_mem _ kw464)) (fun _ h9 => h9) rfl d_GM_settle_1 ?_
      refine lv_if_eq (tgt := 159) hx hb d_GM_settle_4 (by decide) (fun c_4 => ?_) (fun c_4 => ?_)
      · have hF := ps_of c_4 hF
        exact hexit0 S0 _ _ ls hF hP hD hS (lv_sub hl [0] rfl)
      · have hF := ng_of c_4 hF
        refine lv_aload_n hx hb d_GM_settle_7 rfl (lv_at hl 0 rfl) ?_
        refine va_get (D := D) (ci := 6) (v := .ref (mA G 1)) (C := R_GM) (T := T_GM) (N := 30) hx hb hts (fun w h => List.mem_cons_of_mem _ (in_GM w h)) hown hK hP 0 (m_0 G S0) rfl 0 (by decide) (hts _ (List.mem_cons_of_mem _ kw444)) (fun _ h9 => h9) rfl d_GM_settle_8 ?_
        refine lv_aload_n hx hb d_GM_settle_11 rfl (lv_at hl 0 rfl) ?_
        refine va_get (D := D) (ci := 6) (v := .int (S0 0 21)) (C := R_GM) (T := T_GM) (N := 30) hx hb hts (fun w h => List.mem_cons_of_mem _ (in_GM w h)) hown hK hP 0 (m_0 G S0) rfl 21 (by decide) (hts _ (List.mem_cons_of_mem _ kw465)) (fun _ h9 => h9) rfl d_GM_settle_12 ?_
        obtain ⟨g15, hF⟩ := gd_of hF
        refine va_iald (D := D) hx hb hK hP 1 0 (m_1 G S0) rfl (ix_in g15) d_GM_settle_15 ?_
        refine lv_topi (fun x15 ex15 => ?_)
        have hF := lt_of hF ex15
        refine lv_bipush (v := 125) hx hb d_GM_settle_16 (by decide) ?_
        refine lv_icmp_ne (tgt := 159) hx hb d_GM_settle_18 (by decide) (fun c_18 => ?_) (fun c_18 => ?_)
        · have hF := ng_of c_18 hF
          exact hexit0 S0 _ _ ls hF hP hD hS (lv_sub hl [0] rfl)
        · have hF := ps_of c_18 hF
          refine lv_aload_n hx hb d_GM_settle_21 rfl (lv_at hl 0 rfl) ?_
          refine va_get (D := D) (ci := 6) (v := .ref (mA G 5)) (C := R_GM) (T := T_GM) (N := 30) hx hb hts (fun w h => List.mem_cons_of_mem _ (in_GM w h)) hown hK hP 0 (m_0 G S0) rfl 10 (by decide) (hts _ (List.mem_cons_of_mem _ kw454)) (fun _ h9 => h9) rfl d_GM_settle_22 ?_
          refine lv_aload_n hx hb d_GM_settle_25 rfl (lv_at hl 0 rfl) ?_
          refine va_get (D := D) (ci := 6) (v := .int (S0 0 21)) (C := R_GM) (T := T_GM) (N := 30) hx hb hts (fun w h => List.mem_cons_of_mem _ (in_GM w h)) hown hK hP 0 (m_0 G S0) rfl 21 (by decide) (hts _ (List.mem_cons_of_mem _ kw465)) (fun _ h9 => h9) rfl d_GM_settle_26 ?_
          obtain ⟨g29, hF⟩ := gd_of hF
          refine va_iald (D := D) hx hb hK hP 5 0 (m_5 G S0) rfl (ix_in g29) d_GM_settle_29 ?_
          refine lv_topi (fun x29 ex29 => ?_)
          have hF := lt_of hF ex29
          refine lv_istore_n (lv' := [(1, .int x29), (0, .ref (mA G 0))]) hx hb d_GM_settle_30 rfl hl (by decide) rfl (fun ls hl => ?_)
          refine lv_aload_n hx hb d_GM_settle_31 rfl (lv_at hl 1 rfl) ?_
          refine va_get (D := D) (ci := 6) (v := .ref (mA G 7)) (C := R_GM) (T := T_GM) (N := 30) hx hb hts (fun w h => List.mem_cons_of_mem _ (in_GM w h)) hown hK hP 0 (m_0 G S0) rfl 12 (by decide) (hts _ (List.mem_cons_of_mem _ kw456)) (fun _ h9 => h9) rfl d_GM_settle_32 ?_
          refine lv_iload_n hx hb d_GM_settle_35 rfl (lv_at hl 0 rfl) ?_
          obtain ⟨g36, hF⟩ := gd_of hF
          refine va_iald (D := D) hx hb hK hP 7 0 (m_7 G S0) rfl (ix_in g36) d_GM_settle_36 ?_
          refine lv_topi (fun x36 ex36 => ?_)
          have hF := lt_of hF ex36
          refine lv_istore_n (lv' := [(2, .int x36), (1, .int x29), (0, .ref (mA G 0))]) hx hb d_GM_settle_37 rfl hl (by decide) rfl (fun ls hl => ?_)
          refine lv_iload_n hx hb d_GM_settle_38 rfl (lv_at hl 0 rfl) ?_
          refine lv_bipush (v := 6) hx hb d_GM_settle_39 (by decide) ?_
          obtain ⟨k156, hk156, hF⟩ := jn_of hF
          have join156 : ∀ (T1 : MS) (H : Heap) (locs : List Loc) (ls : Array Slot), k156 T1 = some R → va_P D vwCl (wM G T1) H → va_D A (wM G T1) → va_S A s.heap H locs → lv_has ls 3 [(2, .int x36), (1, .int x29), (0, .ref (mA G 0))] → W p l e (headSpec ws_GM_settle ({ frames := 0, cells := 0, slots := 0, locals := 0 })).room s m ([.ref (mA G 0)] : List Value).toArray below meth c H locs 0 0 (MQ below (va_Qv (fun S' : MS => S' = R) (wX D G A) A) ([.ref (mA G 0)] : List Value).toArray s 0 0 A) (F0 m 156 ls []) := by
            intro T156 H locs ls hF hP hD hS hl
            rw [hk156] at hF
            refine lv_goto (tgt := 0) hx hb d_GM_settle_156 (by decide) ?_
            exact ih0 T156 _ _ ls hF hP hD hS (lv_sub hl [2] rfl)
          refine lv_icmp_ne (tgt := 57) hx hb d_GM_settle_41 (by decide) (fun c_41 => ?_) (fun c_41 => ?_)
          · have hF := ng_of c_41 hF
            refine lv_iload_n hx hb d_GM_settle_57 rfl (lv_at hl 0 rfl) ?_
            refine lv_iconst (v := 4) hx hb d_GM_settle_58 (by decide) ?_
            obtain ⟨k67, hk67, hF⟩ := jn_of hF
            have join67 : ∀ (T1 : MS) (H : Heap) (locs : List Loc) (ls : Array Slot), k67 T1 = some R → va_P D vwCl (wM G T1) H → va_D A (wM G T1) → va_S A s.heap H locs → lv_has ls 3 [(2, .int x36), (1, .int x29), (0, .ref (mA G 0))] → W p l e (headSpec ws_GM_settle ({ frames := 0, cells := 0, slots := 0, locals := 0 })).room s m ([.ref (mA G 0)] : List Value).toArray below meth c H locs 0 0 (MQ below (va_Qv (fun S' : MS => S' = R) (wX D G A) A) ([.ref (mA G 0)] : List Value).toArray s 0 0 A) (F0 m 67 ls []) := by
              intro T67 H locs ls hF hP hD hS hl
              rw [hk67] at hF
              refine lv_aload_n hx hb d_GM_settle_67 rfl (lv_at hl 2 rfl) ?_
              refine lv_dup hx hb d_GM_settle_68 rfl ?_
              refine va_get (D := D) (ci := 6) (v := .int (T67 0 21)) (C := R_GM) (T := T_GM) (N := 30) hx hb hts (fun w h => List.mem_cons_of_mem _ (in_GM w h)) hown hK hP 0 (m_0 G T67) rfl 21 (by decide) (hts _ (List.mem_cons_of_mem _ kw465)) (fun _ h9 => h9) rfl d_GM_settle_69 ?_
              refine lv_iconst (v := 1) hx hb d_GM_settle_72 (by decide) ?_
              refine lv_iadd hx hb d_GM_settle_73 ?_
              refine lv_topi (fun x73 ex73 => ?_)
              have hF := lt_of hF ex73
              refine va_putE (D := D) (ci := 6) (v := .int x73) (ty := .int) (C := R_GM) (T := T_GM) (N := 30) hx hb hts (fun w h => List.mem_cons_of_mem _ (in_GM w h)) t_GM t_GM_ok n_GM hown hK hP hD hS 0 (m_0 G T67) rfl 21 (by decide) (hts _ (List.mem_cons_of_mem _ kw465)) (fun _ h9 => h9) rfl (by decide +kernel) rfl rfl (Nat.le_of_ble_eq_true rfl) (mst_21 G T67 x73) d_GM_settle_74 (fun H locs hP hD hS => ?_)
              obtain ⟨S74, eS74⟩ : ∃ y : MS, y = stM T67 0 21 x73 := ⟨_, rfl⟩
              rw [← eS74] at hP hD
              have hF := lt_of hF eS74
              refine lv_iload_n hx hb d_GM_settle_77 rfl (lv_at hl 0 rfl) ?_
              refine lv_iconst (v := 4) hx hb d_GM_settle_78 (by decide) ?_
              refine lv_icmp_ne (tgt := 156) hx hb d_GM_settle_79 (by decide) (fun c_79 => ?_) (fun c_79 => ?_)
              · have hF := ng_of c_79 hF
                exact join156 S74 _ _ ls hF hP hD hS (lv_sub hl [0, 1, 2] rfl)
              · have hF := ps_of c_79 hF
                refine lv_aload_n hx hb d_GM_settle_82 rfl (lv_at hl 2 rfl) ?_
                refine va_get (D := D) (ci := 6) (v := .ref (mA G 1)) (C := R_GM) (T := T_GM) (N := 30) hx hb hts (fun w h => List.mem_cons_of_mem _ (in_GM w h)) hown hK hP 0 (m_0 G S74) rfl 0 (by decide) (hts _ (List.mem_cons_of_mem _ kw444)) (fun _ h9 => h9) rfl d_GM_settle_83 ?_
                refine lv_aload_n hx hb d_GM_settle_86 rfl (lv_at hl 2 rfl) ?_
                refine va_get (D := D) (ci := 6) (v := .int (S74 0 21)) (C := R_GM) (T := T_GM) (N := 30) hx hb hts (fun w h => List.mem_cons_of_mem _ (in_GM w h)) hown hK hP 0 (m_0 G S74) rfl 21 (by decide) (hts _ (List.mem_cons_of_mem _ kw465)) (fun _ h9 => h9) rfl d_GM_settle_87 ?_
                obtain ⟨g90, hF⟩ := gd_of hF
                refine va_iald (D := D) hx hb hK hP 1 0 (m_1 G S74) rfl (ix_in g90) d_GM_settle_90 ?_
                refine lv_topi (fun x90 ex90 => ?_)
                have hF := lt_of hF ex90
                refine lv_bipush (v := 58) hx hb d_GM_settle_91 (by decide) ?_
                refine lv_icmp_ne (tgt := 156) hx hb d_GM_settle_93 (by decide) (fun c_93 => ?_) (fun c_93 => ?_)
                · have hF := ng_of c_93 hF
                  exact join156 S74 _ _ ls hF hP hD hS (lv_sub hl [0, 1, 2] rfl)
                · have hF := ps_of c_93 hF
                  refine lv_aload_n hx hb d_GM_settle_96 rfl (lv_at hl 2 rfl) ?_
                  refine lv_aload_n hx hb d_GM_settle_97 rfl (lv_at hl 2 rfl) ?_
                  refine va_get (D := D) (ci := 6) (v := .ref (mA G 5)) (C := R_GM) (T := T_GM) (N := 30) hx hb hts (fun w h => List.mem_cons_of_mem _ (in_GM w h)) hown hK hP 0 (m_0 G S74) rfl 10 (by decide) (hts _ (List.mem_cons_of_mem _ kw454)) (fun _ h9 => h9) rfl d_GM_settle_98 ?_
                  refine lv_aload_n hx hb d_GM_settle_101 rfl (lv_at hl 2 rfl) ?_
                  refine va_get (D := D) (ci := 6) (v := .int (S74 0 21)) (C := R_GM) (T := T_GM) (N := 30) hx hb hts (fun w h => List.mem_cons_of_mem _ (in_GM w h)) hown hK hP 0 (m_0 G S74) rfl 21 (by decide) (hts _ (List.mem_cons_of_mem _ kw465)) (fun _ h9 => h9) rfl d_GM_settle_102 ?_
                  refine lv_iconst (v := 1) hx hb d_GM_settle_105 (by decide) ?_
                  refine lv_iadd hx hb d_GM_settle_106 ?_
                  refine lv_topi (fun x106 ex106 => ?_)
                  have hF := lt_of hF ex106
                  obtain ⟨g107, hF⟩ := gd_of hF
                  refine va_iald (D := D) hx hb hK hP 5 0 (m_5 G S74) rfl (ix_in g107) d_GM_settle_107 ?_
                  refine lv_topi (fun x107 ex107 => ?_)
                  have hF := lt_of hF ex107
                  refine lv_iconst (v := 1) hx hb d_GM_settle_108 (by decide) ?_
                  refine lv_iadd hx hb d_GM_settle_109 ?_
                  refine lv_topi (fun x109 ex109 => ?_)
                  have hF := lt_of hF ex109
                  refine va_putE (D := D) (ci := 6) (v := .int x109) (ty := .int) (C := R_GM) (T := T_GM) (N := 30) hx hb hts (fun w h => List.mem_cons_of_mem _ (in_GM w h)) t_GM t_GM_ok n_GM hown hK hP hD hS 0 (m_0 G S74) rfl 21 (by decide) (hts _ (List.mem_cons_of_mem _ kw465)) (fun _ h9 => h9) rfl (by decide +kernel) rfl rfl (Nat.le_of_ble_eq_true rfl) (mst_21 G S74 x109) d_GM_settle_110 (fun H locs hP hD hS => ?_)
                  obtain ⟨S110, eS110⟩ : ∃ y : MS, y = stM S74 0 21 x109 := ⟨_, rfl⟩
                  rw [← eS110] at hP hD
                  have hF := lt_of hF eS110
                  refine lv_goto (tgt := 156) hx hb d_GM_settle_113 (by decide) ?_
                  exact join156 S110 _ _ ls hF hP hD hS (lv_sub hl [0, 1, 2] rfl)
            refine lv_icmp_eq (tgt := 67) hx hb d_GM_settle_59 (by decide) (fun c_59 => ?_) (fun c_59 => ?_)
            · have hF := ps_of c_59 hF
              exact join67 S0 _ _ ls hF hP hD hS (lv_sub hl [0, 1, 2] rfl)
            · have hF := ng_of c_59 hF
              refine lv_iload_n hx hb d_GM_settle_62 rfl (lv_at hl 0 rfl) ?_
              refine lv_iconst (v := 5) hx hb d_GM_settle_63 (by decide) ?_
              refine lv_icmp_ne (tgt := 116) hx hb d_GM_settle_64 (by decide) (fun c_64 => ?_) (fun c_64 => ?_)
              · have hF := ng_of c_64 hF
                refine lv_aload_n hx hb d_GM_settle_116 rfl (lv_at hl 2 rfl) ?_
                refine lv_dup hx hb d_GM_settle_117 rfl ?_
                refine va_get (D := D) (ci := 6) (v := .int (S0 0 23)) (C := R_GM) (T := T_GM) (N := 30) hx hb hts (fun w h => List.mem_cons_of_mem _ (in_GM w h)) hown hK hP 0 (m_0 G S0) rfl 23 (by decide) (hts _ (List.mem_cons_of_mem _ kw467)) (fun _ h9 => h9) rfl d_GM_settle_118 ?_
                refine lv_iconst (v := 1) hx hb d_GM_settle_121 (by decide) ?_
                refine lv_isub hx hb d_GM_settle_122 ?_
                refine lv_topi (fun x122 ex122 => ?_)
                have hF := lt_of hF ex122
                refine va_putE (D := D) (ci := 6) (v := .int x122) (ty := .int) (C := R_GM) (T := T_GM) (N := 30) hx hb hts (fun w h => List.mem_cons_of_mem _ (in_GM w h)) t_GM t_GM_ok n_GM hown hK hP hD hS 0 (m_0 G S0) rfl 23 (by decide) (hts _ (List.mem_cons_of_mem _ kw467)) (fun _ h9 => h9) rfl (by decide +kernel) rfl rfl (Nat.le_of_ble_eq_true rfl) (mst_23 G S0 x122) d_GM_settle_123 (fun H locs hP hD hS => ?_)
                obtain ⟨S123, eS123⟩ : ∃ y : MS, y = stM S0 0 23 x122 := ⟨_, rfl⟩
                rw [← eS123] at hP hD
                have hF := lt_of hF eS123
                refine lv_aload_n hx hb d_GM_settle_126 rfl (lv_at hl 2 rfl) ?_
                refine va_get (D := D) (ci := 6) (v := .int (S123 0 23)) (C := R_GM) (T := T_GM) (N := 30) hx hb hts (fun w h => List.mem_cons_of_mem _ (in_GM w h)) hown hK hP 0 (m_0 G S123) rfl 23 (by decide) (hts _ (List.mem_cons_of_mem _ kw467)) (fun _ h9 => h9) rfl d_GM_settle_127 ?_
                refine lv_if_ne (tgt := 141) hx hb d_GM_settle_130 (by decide) (fun c_130 => ?_) (fun c_130 => ?_)
                · have hF := ng_of c_130 hF
                  refine lv_aload_n hx hb d_GM_settle_141 rfl (lv_at hl 2 rfl) ?_
                  refine lv_aload_n hx hb d_GM_settle_142 rfl (lv_at hl 2 rfl) ?_
                  refine va_get (D := D) (ci := 6) (v := .ref (mA G 14)) (C := R_GM) (T := T_GM) (N := 30) hx hb hts (fun w h => List.mem_cons_of_mem _ (in_GM w h)) hown hK hP 0 (m_0 G S123) rfl 22 (by decide) (hts _ (List.mem_cons_of_mem _ kw466)) (fun _ h9 => h9) rfl d_GM_settle_143 ?_
                  refine lv_aload_n hx hb d_GM_settle_146 rfl (lv_at hl 2 rfl) ?_
                  refine va_get (D := D) (ci := 6) (v := .int (S123 0 23)) (C := R_GM) (T := T_GM) (N := 30) hx hb hts (fun w h => List.mem_cons_of_mem _ (in_GM w h)) hown hK hP 0 (m_0 G S123) rfl 23 (by decide) (hts _ (List.mem_cons_of_mem _ kw467)) (fun _ h9 => h9) rfl d_GM_settle_147 ?_
                  refine lv_iconst (v := 1) hx hb d_GM_settle_150 (by decide) ?_
                  refine lv_isub hx hb d_GM_settle_151 ?_
                  refine lv_topi (fun x151 ex151 => ?_)
                  have hF := lt_of hF ex151
                  obtain ⟨g152, hF⟩ := gd_of hF
                  refine va_iald (D := D) hx hb hK hP 14 0 (m_14 G S123) rfl (ix_in g152) d_GM_settle_152 ?_
                  refine lv_topi (fun x152 ex152 => ?_)
                  have hF := lt_of hF ex152
                  refine va_putE (D := D) (ci := 6) (v := .int x152) (ty := .int) (C := R_GM) (T := T_GM) (N := 30) hx hb hts (fun w h => List.mem_cons_of_mem _ (in_GM w h)) t_GM t_GM_ok n_GM hown hK hP hD hS 0 (m_0 G S123) rfl 21 (by decide) (hts _ (List.mem_cons_of_mem _ kw465)) (fun _ h9 => h9) rfl (by decide +kernel) rfl rfl (Nat.le_of_ble_eq_true rfl) (mst_21 G S123 x152) d_GM_settle_153 (fun H locs hP hD hS => ?_)
                  obtain ⟨S153, eS153⟩ : ∃ y : MS, y = stM S123 0 21 x152 := ⟨_, rfl⟩
                  rw [← eS153] at hP hD
                  have hF := lt_of hF eS153
                  exact join156 S153 _ _ ls hF hP hD hS (lv_sub hl [0, 1, 2] rfl)
                · have hF := ps_of c_130 hF
                  refine lv_aload_n hx hb d_GM_settle_133 rfl (lv_at hl 2 rfl) ?_
                  refine lv_iconst (v := 0) hx hb d_GM_settle_134 (by decide) ?_
                  refine va_putE (D := D) (ci := 6) (v := .int 0) (ty := .boolean) (C := R_GM) (T := T_GM) (N := 30) hx hb hts (fun w h => List.mem_cons_of_mem _ (in_GM w h)) t_GM t_GM_ok n_GM hown hK hP hD hS 0 (m_0 G S123) rfl 20 (by decide) (hts _ (List.mem_cons_of_mem _ kw464)) (fun _ h9 => h9) rfl (by decide +kernel) (bl_nar (Or.inl rfl)) (bl_fit (Or.inl rfl)) (Nat.le_of_ble_eq_true rfl) (mst_20 G S123 0) d_GM_settle_135 (fun H locs hP hD hS => ?_)
                  obtain ⟨S135, eS135⟩ : ∃ y : MS, y = stM S123 0 20 0 := ⟨_, rfl⟩
                  rw [← eS135] at hP hD
                  have hF := lt_of hF eS135
                  refine lv_goto (tgt := 156) hx hb d_GM_settle_138 (by decide) ?_
                  exact join156 S135 _ _ ls hF hP hD hS (lv_sub hl [0, 1, 2] rfl)
              · have hF := ps_of c_64 hF
                exact join67 S0 _ _ ls hF hP hD hS (lv_sub hl [0, 1, 2] rfl)
          · have hF := ps_of c_41 hF
            refine lv_aload_n hx hb d_GM_settle_44 rfl (lv_at hl 2 rfl) ?_
            refine lv_aload_n hx hb d_GM_settle_45 rfl (lv_at hl 2 rfl) ?_
            refine va_get (D := D) (ci := 6) (v := .ref (mA G 6)) (C := R_GM) (T := T_GM) (N := 30) hx hb hts (fun w h => List.mem_cons_of_mem _ (in_GM w h)) hown hK hP 0 (m_0 G S0) rfl 11 (by decide) (hts _ (List.mem_cons_of_mem _ kw455)) (fun _ h9 => h9) rfl d_GM_settle_46 ?_
            refine lv_iload_n hx hb d_GM_settle_49 rfl (lv_at hl 1 rfl) ?_
            obtain ⟨g50, hF⟩ := gd_of hF
            refine va_iald (D := D) hx hb hK hP 6 0 (m_6 G S0) rfl (ix_in g50) d_GM_settle_50 ?_
            refine lv_topi (fun x50 ex50 => ?_)
            have hF := lt_of hF ex50
            refine va_putE (D := D) (ci := 6) (v := .int x50) (ty := .int) (C := R_GM) (T := T_GM) (N := 30) hx hb hts (fun w h => List.mem_cons_of_mem _ (in_GM w h)) t_GM t_GM_ok n_GM hown hK hP hD hS 0 (m_0 G S0) rfl 21 (by decide) (hts _ (List.mem_cons_of_mem _ kw465)) (fun _ h9 => h9) rfl (by decide +kernel) rfl rfl (Nat.le_of_ble_eq_true rfl) (mst_21 G S0 x50) d_GM_settle_51 (fun H locs hP hD hS => ?_)
            obtain ⟨S51, eS51⟩ : ∃ y : MS, y = stM S0 0 21 x50 := ⟨_, rfl⟩
            rw [← eS51] at hP hD
            have hF := lt_of hF eS51
            refine lv_goto (tgt := 156) hx hb d_GM_settle_54 (by decide) ?_
            exact join156 S51 _ _ ls hF hP hD hS (lv_sub hl [0, 1, 2] rfl)
  refine loop0 _ ?_ (fz 2000) S _ _ ls hF hP hD hS hl
  intro S159 H locs ls hF hP hD hS hl
  exact W.vret hx hb hr (fun t ht hW => ⟨⟨S159, rfl, Option.some.inj hF, by rw [ht]; exact hP, hD⟩, hS.F ht⟩) hS.2.2 d_GM_settle_159
set_option maxHeartbeats 4000000 in
set_option maxRecDepth 100000 in
theorem c_GM_start (l : Launch) (D : va_G) (G : MP) (S : MS) (sz : Nat) (R : (Int32 × MS)) (hF : f_GM_start S  = some R) : Met l y_GM_start ws_GM_start ({ frames := 1, cells := 0, slots := 0, locals := 22 }) (va_Pc [.ref (mA G 0)] (mPre D G S sz)) (va_Qi (fun (r : Int32) (S' : MS) => (r, S') = R) (wX D G (va_A (wM G S) sz)) (va_A (wM G S) sz)) 0 0 (va_A (wM G S) sz) := by
  refine Met.ofW (cc := b_GM_start) (maxL := 1) (ret := (some .int)) (by decide) rfl ?_
  intro p e s m args below meth c s₁ B hml hv
  obtain ⟨rfl, hsz, hP, hK, hD0⟩ := hv
  have hx := B.exec
  have hb := B.bytes
  have hr := B.returns
  have hts := atoms_spec (ws := ws_GM_start) B.pre
  have hown : s.vm.findClass R_GM = some m.cls := findClass_of_methodNamed B.named
  have hlocks := B.notSynchronized
  subst hsz
  have hD := hD0.self (sz := s.heap.size)
  generalize hAe : va_A (wM G S) s.heap.size = A at hD ⊢
  have hA : ∀ q : Nat, s.heap.size ≤ q → A q := fun q h => by rw [← hAe]; exact Or.inr h
  have hS : va_S A s.heap s.heap [] := va_S.rf
  have hl := lv_entry ([.ref (mA G 0)]) (n := 1) (Nat.le_of_ble_eq_true rfl)
  rw [lg_entry_eq]
  generalize (lg_sl ([.ref (mA G 0)]) ++ List.replicate (1 - (lg_sl ([.ref (mA G 0)])).length) Slot.unset).toArray = ls at hl ⊢
  have hl : lv_has ls 1 [(0, .ref (mA G 0))] := hl
  unfold f_GM_start at hF
  refine lv_aload_n hx hb d_GM_start_0 rfl (lv_at hl 0 rfl) ?_
  refine va_get (D := D) (ci := 6) (v := .int (S 0 3)) (C := R_GM) (T := T_GM) (N := 30) hx hb hts (fun w h => List.mem_cons_of_mem _ (in_GM w h)) hown hK hP 0 (m_0 G S) rfl 3 (by decide) (hts _ (List.mem_cons_of_mem _ kw447)) (fun _ h9 => h9) rfl d_GM_start_1 ?_
  obtain ⟨k14, hk14, hF⟩ := jn_of hF
  have join14 : ∀ (T1 : MS) (H : Heap) (locs : List Loc) (ls : Array Slot), k14 T1 = some R → va_P D vwCl (wM G T1) H → va_D A (wM G T1) → va_S A s.heap H locs → lv_has ls 1 [(0, .ref (mA G 0))] → W p l e (headSpec ws_GM_start ({ frames := 1, cells := 0, slots := 0, locals := 22 })).room s m ([.ref (mA G 0)] : List Value).toArray below meth c H locs 0 0 (MQ below (va_Qi (fun (r : Int32) (S' : MS) => (r, S') = R) (wX D G A) A) ([.ref (mA G 0)] : List Value).toArray s 0 0 A) (F0 m 14 ls []) := by
    intro T14 H locs ls hF hP hD hS hl
    rw [hk14] at hF
    refine lv_iconst (v := (-1)) hx hb d_GM_start_14 (by decide) ?_
    exact W.iret (v := (-1)) hx hb hr (fun t ht hW => ⟨⟨(-1), T14, rfl, Option.some.inj hF, by rw [ht]; exact hP, hD⟩, hS.F ht⟩) hS.2.2 d_GM_start_15
  refine lv_if_eq (tgt := 14) hx hb d_GM_start_4 (by decide) (fun c_4 => ?_) (fun c_4 => ?_)
  · have hF := ps_of c_4 hF
    exact join14 S _ _ ls hF hP hD hS (lv_sub hl [0] rfl)
  · have hF := ng_of c_4 hF
    refine lv_aload_n hx hb d_GM_start_7 rfl (lv_at hl 0 rfl) ?_
    refine va_get (D := D) (ci := 6) (v := .int (S 0 20)) (C := R_GM) (T := T_GM) (N := 30) hx hb hts (fun w h => List.mem_cons_of_mem _ (in_GM w h)) hown hK hP 0 (m_0 G S) rfl 20 (by decide) (hts _ (List.mem_cons_of_mem _ kw464)) (fun _ h9 => h9) rfl d_GM_start_8 ?_
    refine lv_if_eq (tgt := 16) hx hb d_GM_start_11 (by decide) (fun c_11 => ?_) (fun c_11 => ?_)
    · have hF := ps_of c_11 hF
      refine lv_aload_n hx hb d_GM_start_16 rfl (lv_at hl 0 rfl) ?_
      refine lv_iconst (v := 0) hx hb d_GM_start_17 (by decide) ?_
      refine va_putE (D := D) (ci := 6) (v := .int 0) (ty := .int) (C := R_GM) (T := T_GM) (N := 30) hx hb hts (fun w h => List.mem_cons_of_mem _ (in_GM w h)) t_GM t_GM_ok n_GM hown hK hP hD hS 0 (m_0 G S) rfl 19 (by decide) (hts _ (List.mem_cons_of_mem _ kw463)) (fun _ h9 => h9) rfl (by decide +kernel) rfl rfl (Nat.le_of_ble_eq_true rfl) (mst_19 G S 0) d_GM_start_18 (fun H locs hP hD hS => ?_)
      obtain ⟨S18, eS18⟩ : ∃ y : MS, y = stM S 0 19 0 := ⟨_, rfl⟩
      rw [← eS18] at hP hD
      have hF := lt_of hF eS18
      refine lv_aload_n hx hb d_GM_start_21 rfl (lv_at hl 0 rfl) ?_
      refine lv_iconst (v := 1) hx hb d_GM_start_22 (by decide) ?_
      refine va_putE (D := D) (ci := 6) (v := .int 1) (ty := .boolean) (C := R_GM) (T := T_GM) (N := 30) hx hb hts (fun w h => List.mem_cons_of_mem _ (in_GM w h)) t_GM t_GM_ok n_GM hown hK hP hD hS 0 (m_0 G S18) rfl 20 (by decide) (hts _ (List.mem_cons_of_mem _ kw464)) (fun _ h9 => h9) rfl (by decide +kernel) (bl_nar (Or.inr rfl)) (bl_fit (Or.inr rfl)) (Nat.le_of_ble_eq_true rfl) (mst_20 G S18 1) d_GM_start_23 (fun H locs hP hD hS => ?_)
      obtain ⟨S23, eS23⟩ : ∃ y : MS, y = stM S18 0 20 1 := ⟨_, rfl⟩
      rw [← eS23] at hP hD
      have hF := lt_of hF eS23
      refine lv_aload_n hx hb d_GM_start_26 rfl (lv_at hl 0 rfl) ?_
      refine lv_iconst (v := 1) hx hb d_GM_start_27 (by decide) ?_
      refine va_putE (D := D) (ci := 6) (v := .int 1) (ty := .int) (C := R_GM) (T := T_GM) (N := 30) hx hb hts (fun w h => List.mem_cons_of_mem _ (in_GM w h)) t_GM t_GM_ok n_GM hown hK hP hD hS 0 (m_0 G S23) rfl 23 (by decide) (hts _ (List.mem_cons_of_mem _ kw467)) (fun _ h9 => h9) rfl (by decide +kernel) rfl rfl (Nat.le_of_ble_eq_true rfl) (mst_23 G S23 1) d_GM_start_28 (fun H locs hP hD hS => ?_)
      obtain ⟨S28, eS28⟩ : ∃ y : MS, y = stM S23 0 23 1 := ⟨_, rfl⟩
      rw [← eS28] at hP hD
      have hF := lt_of hF eS28
      refine lv_aload_n hx hb d_GM_start_31 rfl (lv_at hl 0 rfl) ?_
      refine lv_aload_n hx hb d_GM_start_32 rfl (lv_at hl 0 rfl) ?_
      refine va_get (D := D) (ci := 6) (v := .ref (mA G 10)) (C := R_GM) (T := T_GM) (N := 30) hx hb hts (fun w h => List.mem_cons_of_mem _ (in_GM w h)) hown hK hP 0 (m_0 G S28) rfl 15 (by decide) (hts _ (List.mem_cons_of_mem _ kw459)) (fun _ h9 => h9) rfl d_GM_start_33 ?_
      refine lv_bipush (v := 12) hx hb d_GM_start_36 (by decide) ?_
      obtain ⟨g38, hF⟩ := gd_of hF
      refine va_iald (D := D) hx hb hK hP 10 0 (m_10 G S28) rfl (ix_in g38) d_GM_start_38 ?_
      refine lv_topi (fun x38 ex38 => ?_)
      have hF := lt_of hF ex38
      refine lv_iconst (v := 1) hx hb d_GM_start_39 (by decide) ?_
      refine lv_iadd hx hb d_GM_start_40 ?_
      refine lv_topi (fun x40 ex40 => ?_)
      have hF := lt_of hF ex40
      refine va_putE (D := D) (ci := 6) (v := .int x40) (ty := .int) (C := R_GM) (T := T_GM) (N := 30) hx hb hts (fun w h => List.mem_cons_of_mem _ (in_GM w h)) t_GM t_GM_ok n_GM hown hK hP hD hS 0 (m_0 G S28) rfl 21 (by decide) (hts _ (List.mem_cons_of_mem _ kw465)) (fun _ h9 => h9) rfl (by decide +kernel) rfl rfl (Nat.le_of_ble_eq_true rfl) (mst_21 G S28 x40) d_GM_start_41 (fun H locs hP hD hS => ?_)
      obtain ⟨S41, eS41⟩ : ∃ y : MS, y = stM S28 0 21 x40 := ⟨_, rfl⟩
      rw [← eS41] at hP hD
      have hF := lt_of hF eS41
      refine lv_aload_n hx hb d_GM_start_44 rfl (lv_at hl 0 rfl) ?_
      obtain ⟨S45, hq45, hF⟩ := bd_of hF
      refine dq_v (va_runV (As := []) (rest := []) ⟨hx, hb, hml, hown, hts⟩ (c_GM_settle l D G S41 _  S45 hq45) (cwV 0 hts (gV kw573 kw574 kw662 kw7 kw575) rfl rfl rfl (by decide +kernel) ⟨by show (0 : Nat) + 1 ≤ 1; omega, by show 8 + (3 + 11) + 0 ≤ 22; omega⟩) ⟨blindM, va_recv (ci := 6) (q0 := 0) hK hP rfl (m_0 G S41), fun U hU hW => ⟨rfl, mPre_of hP hK hD hU hW⟩⟩ rfl rfl hl.1 rfl (lv_room (Nat.le_of_ble_eq_true rfl)) d_GM_start_45 ⟨Nat.zero_le _, Nat.zero_le _⟩) hD hS hA (fun rS45 H locs hw hP hD hS => ?_)
      have hw := hw.symm
      subst hw
      refine lv_aload_n hx hb d_GM_start_48 rfl (lv_at hl 0 rfl) ?_
      refine va_get (D := D) (ci := 6) (v := .int (S45 0 20)) (C := R_GM) (T := T_GM) (N := 30) hx hb hts (fun w h => List.mem_cons_of_mem _ (in_GM w h)) hown hK hP 0 (m_0 G S45) rfl 20 (by decide) (hts _ (List.mem_cons_of_mem _ kw464)) (fun _ h9 => h9) rfl d_GM_start_49 ?_
      obtain ⟨k60, hk60, hF⟩ := jn_of hF
      have join60 : ∀ (T1 : MS) (z60 : Int32) (H : Heap) (locs : List Loc) (ls : Array Slot), k60 T1 z60 = some R → va_P D vwCl (wM G T1) H → va_D A (wM G T1) → va_S A s.heap H locs → lv_has ls 1 [(0, .ref (mA G 0))] → W p l e (headSpec ws_GM_start ({ frames := 1, cells := 0, slots := 0, locals := 22 })).room s m ([.ref (mA G 0)] : List Value).toArray below meth c H locs 0 0 (MQ below (va_Qi (fun (r : Int32) (S' : MS) => (r, S') = R) (wX D G A) A) ([.ref (mA G 0)] : List Value).toArray s 0 0 A) (F0 m 60 ls [.int z60]) := by
        intro T60 z60 H locs ls hF hP hD hS hl
        rw [hk60] at hF
        exact W.iret (v := z60) hx hb hr (fun t ht hW => ⟨⟨z60, T60, rfl, Option.some.inj hF, by rw [ht]; exact hP, hD⟩, hS.F ht⟩) hS.2.2 d_GM_start_60
      refine lv_if_eq (tgt := 59) hx hb d_GM_start_52 (by decide) (fun c_52 => ?_) (fun c_52 => ?_)
      · have hF := ps_of c_52 hF
        refine lv_iconst (v := 0) hx hb d_GM_start_59 (by decide) ?_
        exact join60 S45 0 _ _ ls hF hP hD hS (lv_sub hl [0] rfl)
      · have hF := ng_of c_52 hF
        refine lv_iconst (v := 1) hx hb d_GM_start_55 (by decide) ?_
        refine lv_goto (tgt := 60) hx hb d_GM_start_56 (by decide) ?_
        exact join60 S45 1 _ _ ls hF hP hD hS (lv_sub hl [0] rfl)
    · have hF := ng_of c_11 hF
      exact join14 S _ _ ls hF hP hD hS (lv_sub hl [0] rfl)
set_option maxHeartbeats 4000000 in
set_option maxRecDepth 100000 in
theorem c_GM_branch (l : Launch) (D : va_G) (G : MP) (S : MS) (sz : Nat) (p1 : Int32) (R : MS) (hF : f_GM_branch S p1 = some R) : Met l y_GM_branch ws_GM_branch ({ frames := 3, cells := 0, slots := 0, locals := 71 }) (va_Pc [.ref (mA G 0), .int p1] (mPre D G S sz)) (va_Qv (fun S' : MS => S' = R) (wX D G (va_A (wM G S) sz)) (va_A (wM G S) sz)) 0 0 (va_A (wM G S) sz) := by
  refine Met.ofW (cc := b_GM_branch) (maxL := 5) (ret := none) (by decide) rfl ?_
  intro p e s m args below meth c s₁ B hml hv
  obtain ⟨rfl, hsz, hP, hK, hD0⟩ := hv
  have hx := B.exec
  have hb := B.bytes
  have hr := B.returns
  have hts := atoms_spec (ws := ws_GM_branch) B.pre
  have hown : s.vm.findClass R_GM = some m.cls := findClass_of_methodNamed B.named
  have hlocks := B.notSynchronized
  subst hsz
  have hD := hD0.self (sz := s.heap.size)
  generalize hAe : va_A (wM G S) s.heap.size = A at hD ⊢
  have hA : ∀ q : Nat, s.heap.size ≤ q → A q := fun q h => by rw [← hAe]; exact Or.inr h
  have hS : va_S A s.heap s.heap [] := va_S.rf
  have hl := lv_entry ([.ref (mA G 0), .int p1]) (n := 5) (Nat.le_of_ble_eq_true rfl)
  rw [lg_entry_eq]
  generalize (lg_sl ([.ref (mA G 0), .int p1]) ++ List.replicate (5 - (lg_sl ([.ref (mA G 0), .int p1])).length) Slot.unset).toArray = ls at hl ⊢
  have hl : lv_has ls 5 [(0, .ref (mA G 0)), (1, .int p1)] := hl
  unfold f_GM_branch at hF
  refine lv_aload_n hx hb d_GM_branch_0 rfl (lv_at hl 0 rfl) ?_
  refine lv_iload_n hx hb d_GM_branch_1 rfl (lv_at hl 1 rfl) ?_
  refine lv_iconst (v := 1) hx hb d_GM_branch_2 (by decide) ?_
  refine lv_iadd hx hb d_GM_branch_3 ?_
  refine lv_topi (fun x3 ex3 => ?_)
  have hF := lt_of hF ex3
  obtain ⟨x4, S4, hq4, hF⟩ := bd2_of hF
  refine dq_i (va_runV (As := [.int x3]) (rest := []) ⟨hx, hb, hml, hown, hts⟩ (c_GM_work l D G S _ x3 (x4, S4) hq4) (cwV 1 hts (gV kw586 kw587 kw665 kw7 kw588) rfl rfl rfl (by decide +kernel) ⟨by show (2 : Nat) + 1 ≤ 3; omega, by show 8 + (7 + 11) + 45 ≤ 71; omega⟩) ⟨blindM, va_recv (ci := 6) (q0 := 0) hK hP rfl (m_0 G S), fun U hU hW => ⟨rfl, mPre_of hP hK hD hU hW⟩⟩ rfl rfl hl.1 rfl (lv_room (Nat.le_of_ble_eq_true rfl)) d_GM_branch_4 ⟨Nat.zero_le _, Nat.zero_le _⟩) hD hS hA (fun rx4 rS4 H locs hw hP hD hS => ?_)
  obtain ⟨h1, h2⟩ := Prod.mk.inj hw
  have h1 := h1.symm
  have h2 := h2.symm
  subst h1
  subst h2
  refine lv_istore_n (lv' := [(2, .int x4), (0, .ref (mA G 0)), (1, .int p1)]) hx hb d_GM_branch_7 rfl hl (by decide) rfl (fun ls hl => ?_)
  refine lv_aload_n hx hb d_GM_branch_8 rfl (lv_at hl 1 rfl) ?_
  refine va_get (D := D) (ci := 6) (v := .int (S4 0 29)) (C := R_GM) (T := T_GM) (N := 30) hx hb hts (fun w h => List.mem_cons_of_mem _ (in_GM w h)) hown hK hP 0 (m_0 G S4) rfl 29 (by decide) (hts _ (List.mem_cons_of_mem _ kw473)) (fun _ h9 => h9) rfl d_GM_branch_9 ?_
  refine lv_topi (fun x12 ex12 => ?_)
  have hF := lt_of hF ex12
  refine lv_istore_n (lv' := [(3, .int x12), (2, .int x4), (0, .ref (mA G 0)), (1, .int p1)]) hx hb d_GM_branch_12 rfl hl (by decide) rfl (fun ls hl => ?_)
  refine lv_aload_n hx hb d_GM_branch_13 rfl (lv_at hl 2 rfl) ?_
  refine va_get (D := D) (ci := 6) (v := .ref (mA G 1)) (C := R_GM) (T := T_GM) (N := 30) hx hb hts (fun w h => List.mem_cons_of_mem _ (in_GM w h)) hown hK hP 0 (m_0 G S4) rfl 0 (by decide) (hts _ (List.mem_cons_of_mem _ kw444)) (fun _ h9 => h9) rfl d_GM_branch_14 ?_
  refine lv_iload_n hx hb d_GM_branch_17 rfl (lv_at hl 3 rfl) ?_
  obtain ⟨g18, hF⟩ := gd_of hF
  refine va_iald (D := D) hx hb hK hP 1 0 (m_1 G S4) rfl (ix_in g18) d_GM_branch_18 ?_
  refine lv_topi (fun x18 ex18 => ?_)
  have hF := lt_of hF ex18
  refine lv_bipush (v := 64) hx hb d_GM_branch_19 (by decide) ?_
  obtain ⟨k29, hk29, hF⟩ := jn_of hF
  have join29 : ∀ (T1 : MS) (z29 : Int32) (H : Heap) (locs : List Loc) (ls : Array Slot), k29 T1 z29 = some R → va_P D vwCl (wM G T1) H → va_D A (wM G T1) → va_S A s.heap H locs → lv_has ls 5 [(3, .int x12), (2, .int x4), (0, .ref (mA G 0)), (1, .int p1)] → W p l e (headSpec ws_GM_branch ({ frames := 3, cells := 0, slots := 0, locals := 71 })).room s m ([.ref (mA G 0), .int p1] : List Value).toArray below meth c H locs 0 0 (MQ below (va_Qv (fun S' : MS => S' = R) (wX D G A) A) ([.ref (mA G 0), .int p1] : List Value).toArray s 0 0 A) (F0 m 29 ls [.int z29]) := by
    intro T29 z29 H locs ls hF hP hD hS hl
    rw [hk29] at hF
    refine lv_istore (lv' := [(4, .int z29), (3, .int x12), (2, .int x4), (0, .ref (mA G 0)), (1, .int p1)]) hx hb d_GM_branch_29 hl (by decide) rfl (fun ls hl => ?_)
    refine lv_iload_n hx hb d_GM_branch_31 rfl (lv_at hl 2 rfl) ?_
    obtain ⟨k86, hk86, hF⟩ := jn_of hF
    have join86 : ∀ (T1 : MS) (H : Heap) (locs : List Loc) (ls : Array Slot), k86 T1 = some R → va_P D vwCl (wM G T1) H → va_D A (wM G T1) → va_S A s.heap H locs → lv_has ls 5 [(4, .int z29), (3, .int x12), (2, .int x4), (0, .ref (mA G 0)), (1, .int p1)] → W p l e (headSpec ws_GM_branch ({ frames := 3, cells := 0, slots := 0, locals := 71 })).room s m ([.ref (mA G 0), .int p1] : List Value).toArray below meth c H locs 0 0 (MQ below (va_Qv (fun S' : MS => S' = R) (wX D G A) A) ([.ref (mA G 0), .int p1] : List Value).toArray s 0 0 A) (F0 m 86 ls []) := by
      intro T86 H locs ls hF hP hD hS hl
      rw [hk86] at hF
      exact W.vret hx hb hr (fun t ht hW => ⟨⟨T86, rfl, Option.some.inj hF, by rw [ht]; exact hP, hD⟩, hS.F ht⟩) hS.2.2 d_GM_branch_86
    refine lv_if_eq (tgt := 45) hx hb d_GM_branch_32 (by decide) (fun c_32 => ?_) (fun c_32 => ?_)
    · have hF := ps_of c_32 hF
      refine lv_aload_n hx hb d_GM_branch_45 rfl (lv_at hl 3 rfl) ?_
      refine lv_aload_n hx hb d_GM_branch_46 rfl (lv_at hl 3 rfl) ?_
      refine va_get (D := D) (ci := 6) (v := .ref (mA G 5)) (C := R_GM) (T := T_GM) (N := 30) hx hb hts (fun w h => List.mem_cons_of_mem _ (in_GM w h)) hown hK hP 0 (m_0 G T29) rfl 10 (by decide) (hts _ (List.mem_cons_of_mem _ kw454)) (fun _ h9 => h9) rfl d_GM_branch_47 ?_
      refine lv_iload_n hx hb d_GM_branch_50 rfl (lv_at hl 1 rfl) ?_
      obtain ⟨g51, hF⟩ := gd_of hF
      refine va_iald (D := D) hx hb hK hP 5 0 (m_5 G T29) rfl (ix_in g51) d_GM_branch_51 ?_
      refine lv_topi (fun x51 ex51 => ?_)
      have hF := lt_of hF ex51
      refine lv_iconst (v := 1) hx hb d_GM_branch_52 (by decide) ?_
      refine lv_iadd hx hb d_GM_branch_53 ?_
      refine lv_topi (fun x53 ex53 => ?_)
      have hF := lt_of hF ex53
      refine va_putE (D := D) (ci := 6) (v := .int x53) (ty := .int) (C := R_GM) (T := T_GM) (N := 30) hx hb hts (fun w h => List.mem_cons_of_mem _ (in_GM w h)) t_GM t_GM_ok n_GM hown hK hP hD hS 0 (m_0 G T29) rfl 21 (by decide) (hts _ (List.mem_cons_of_mem _ kw465)) (fun _ h9 => h9) rfl (by decide +kernel) rfl rfl (Nat.le_of_ble_eq_true rfl) (mst_21 G T29 x53) d_GM_branch_54 (fun H locs hP hD hS => ?_)
      obtain ⟨S54, eS54⟩ : ∃ y : MS, y = stM T29 0 21 x53 := ⟨_, rfl⟩
      rw [← eS54] at hP hD
      have hF := lt_of hF eS54
      refine lv_iload hx hb d_GM_branch_57 (lv_at hl 0 rfl) ?_
      refine lv_if_ne (tgt := 86) hx hb d_GM_branch_59 (by decide) (fun c_59 => ?_) (fun c_59 => ?_)
      · have hF := ng_of c_59 hF
        exact join86 S54 _ _ ls hF hP hD hS (lv_sub hl [0, 1, 2, 3, 4] rfl)
      · have hF := ps_of c_59 hF
        refine lv_aload_n hx hb d_GM_branch_62 rfl (lv_at hl 3 rfl) ?_
        refine va_get (D := D) (ci := 6) (v := .ref (mA G 1)) (C := R_GM) (T := T_GM) (N := 30) hx hb hts (fun w h => List.mem_cons_of_mem _ (in_GM w h)) hown hK hP 0 (m_0 G S54) rfl 0 (by decide) (hts _ (List.mem_cons_of_mem _ kw444)) (fun _ h9 => h9) rfl d_GM_branch_63 ?_
        refine lv_aload_n hx hb d_GM_branch_66 rfl (lv_at hl 3 rfl) ?_
        refine va_get (D := D) (ci := 6) (v := .int (S54 0 21)) (C := R_GM) (T := T_GM) (N := 30) hx hb hts (fun w h => List.mem_cons_of_mem _ (in_GM w h)) hown hK hP 0 (m_0 G S54) rfl 21 (by decide) (hts _ (List.mem_cons_of_mem _ kw465)) (fun _ h9 => h9) rfl d_GM_branch_67 ?_
        obtain ⟨g70, hF⟩ := gd_of hF
        refine va_iald (D := D) hx hb hK hP 1 0 (m_1 G S54) rfl (ix_in g70) d_GM_branch_70 ?_
        refine lv_topi (fun x70 ex70 => ?_)
        have hF := lt_of hF ex70
        refine lv_bipush (v := 58) hx hb d_GM_branch_71 (by decide) ?_
        refine lv_icmp_ne (tgt := 86) hx hb d_GM_branch_73 (by decide) (fun c_73 => ?_) (fun c_73 => ?_)
        · have hF := ng_of c_73 hF
          exact join86 S54 _ _ ls hF hP hD hS (lv_sub hl [0, 1, 2, 3, 4] rfl)
        · have hF := ps_of c_73 hF
          refine lv_aload_n hx hb d_GM_branch_76 rfl (lv_at hl 3 rfl) ?_
          refine lv_dup hx hb d_GM_branch_77 rfl ?_
          refine va_get (D := D) (ci := 6) (v := .int (S54 0 21)) (C := R_GM) (T := T_GM) (N := 30) hx hb hts (fun w h => List.mem_cons_of_mem _ (in_GM w h)) hown hK hP 0 (m_0 G S54) rfl 21 (by decide) (hts _ (List.mem_cons_of_mem _ kw465)) (fun _ h9 => h9) rfl d_GM_branch_78 ?_
          refine lv_iconst (v := 2) hx hb d_GM_branch_81 (by decide) ?_
          refine lv_iadd hx hb d_GM_branch_82 ?_
          refine lv_topi (fun x82 ex82 => ?_)
          have hF := lt_of hF ex82
          refine va_putE (D := D) (ci := 6) (v := .int x82) (ty := .int) (C := R_GM) (T := T_GM) (N := 30) hx hb hts (fun w h => List.mem_cons_of_mem _ (in_GM w h)) t_GM t_GM_ok n_GM hown hK hP hD hS 0 (m_0 G S54) rfl 21 (by decide) (hts _ (List.mem_cons_of_mem _ kw465)) (fun _ h9 => h9) rfl (by decide +kernel) rfl rfl (Nat.le_of_ble_eq_true rfl) (mst_21 G S54 x82) d_GM_branch_83 (fun H locs hP hD hS => ?_)
          obtain ⟨S83, eS83⟩ : ∃ y : MS, y = stM S54 0 21 x82 := ⟨_, rfl⟩
          rw [← eS83] at hP hD
          have hF := lt_of hF eS83
          exact join86 S83 _ _ ls hF hP hD hS (lv_sub hl [0, 1, 2, 3, 4] rfl)
    · have hF := ng_of c_32 hF
      refine lv_aload_n hx hb d_GM_branch_35 rfl (lv_at hl 3 rfl) ?_
      refine lv_iload_n hx hb d_GM_branch_36 rfl (lv_at hl 1 rfl) ?_
      refine lv_iconst (v := 1) hx hb d_GM_branch_37 (by decide) ?_
      refine lv_iadd hx hb d_GM_branch_38 ?_
      refine lv_topi (fun x38 ex38 => ?_)
      have hF := lt_of hF ex38
      refine va_putE (D := D) (ci := 6) (v := .int x38) (ty := .int) (C := R_GM) (T := T_GM) (N := 30) hx hb hts (fun w h => List.mem_cons_of_mem _ (in_GM w h)) t_GM t_GM_ok n_GM hown hK hP hD hS 0 (m_0 G T29) rfl 21 (by decide) (hts _ (List.mem_cons_of_mem _ kw465)) (fun _ h9 => h9) rfl (by decide +kernel) rfl rfl (Nat.le_of_ble_eq_true rfl) (mst_21 G T29 x38) d_GM_branch_39 (fun H locs hP hD hS => ?_)
      obtain ⟨S39, eS39⟩ : ∃ y : MS, y = stM T29 0 21 x38 := ⟨_, rfl⟩
      rw [← eS39] at hP hD
      have hF := lt_of hF eS39
      refine lv_goto (tgt := 86) hx hb d_GM_branch_42 (by decide) ?_
      exact join86 S39 _ _ ls hF hP hD hS (lv_sub hl [0, 1, 2, 3, 4] rfl)
  refine lv_icmp_ne (tgt := 28) hx hb d_GM_branch_21 (by decide) (fun c_21 => ?_) (fun c_21 => ?_)
  · have hF := ng_of c_21 hF
    refine lv_iconst (v := 0) hx hb d_GM_branch_28 (by decide) ?_
    exact join29 S4 0 _ _ ls hF hP hD hS (lv_sub hl [0, 1, 2, 3] rfl)
  · have hF := ps_of c_21 hF
    refine lv_iconst (v := 1) hx hb d_GM_branch_24 (by decide) ?_
    refine lv_goto (tgt := 29) hx hb d_GM_branch_25 (by decide) ?_
    exact join29 S4 1 _ _ ls hF hP hD hS (lv_sub hl [0, 1, 2, 3] rfl)
set_option maxHeartbeats 4000000 in
set_option maxRecDepth 100000 in
theorem c_GM_step (l : Launch) (D : va_G) (G : MP) (S : MS) (sz : Nat) (R : MS) (hF : f_GM_step S  = some R) : Met l y_GM_step ws_GM_step ({ frames := 4, cells := 0, slots := 0, locals := 95 }) (va_Pc [.ref (mA G 0)] (mPre D G S sz)) (va_Qv (fun S' : MS => S' = R) (wX D G (va_A (wM G S) sz)) (va_A (wM G S) sz)) 0 0 (va_A (wM G S) sz) := by
  refine Met.ofW (cc := b_GM_step) (maxL := 3) (ret := none) (by decide) rfl ?_
  intro p e s m args below meth c s₁ B hml hv
  obtain ⟨rfl, hsz, hP, hK, hD0⟩ := hv
  have hx := B.exec
  have hb := B.bytes
  have hr := B.returns
  have hts := atoms_spec (ws := ws_GM_step) B.pre
  have hown : s.vm.findClass R_GM = some m.cls := findClass_of_methodNamed B.named
  have hlocks := B.notSynchronized
  subst hsz
  have hD := hD0.self (sz := s.heap.size)
  generalize hAe : va_A (wM G S) s.heap.size = A at hD ⊢
  have hA : ∀ q : Nat, s.heap.size ≤ q → A q := fun q h => by rw [← hAe]; exact Or.inr h
  have hS : va_S A s.heap s.heap [] := va_S.rf
  have hl := lv_entry ([.ref (mA G 0)]) (n := 3) (Nat.le_of_ble_eq_true rfl)
  rw [lg_entry_eq]
  generalize (lg_sl ([.ref (mA G 0)]) ++ List.replicate (3 - (lg_sl ([.ref (mA G 0)])).length) Slot.unset).toArray = ls at hl ⊢
  have hl : lv_has ls 3 [(0, .ref (mA G 0))] := hl
  unfold f_GM_step at hF
  refine lv_aload_n hx hb d_GM_step_0 rfl (lv_at hl 0 rfl) ?_
  refine va_get (D := D) (ci := 6) (v := .ref (mA G 1)) (C := R_GM) (T := T_GM) (N := 30) hx hb hts (fun w h => List.mem_cons_of_mem _ (in_GM w h)) hown hK hP 0 (m_0 G S) rfl 0 (by decide) (hts _ (List.mem_cons_of_mem _ kw444)) (fun _ h9 => h9) rfl d_GM_step_1 ?_
  refine lv_aload_n hx hb d_GM_step_4 rfl (lv_at hl 0 rfl) ?_
  refine va_get (D := D) (ci := 6) (v := .int (S 0 21)) (C := R_GM) (T := T_GM) (N := 30) hx hb hts (fun w h => List.mem_cons_of_mem _ (in_GM w h)) hown hK hP 0 (m_0 G S) rfl 21 (by decide) (hts _ (List.mem_cons_of_mem _ kw465)) (fun _ h9 => h9) rfl d_GM_step_5 ?_
  obtain ⟨g8, hF⟩ := gd_of hF
  refine va_iald (D := D) hx hb hK hP 1 0 (m_1 G S) rfl (ix_in g8) d_GM_step_8 ?_
  refine lv_topi (fun x8 ex8 => ?_)
  have hF := lt_of hF ex8
  refine lv_istore_n (lv' := [(1, .int x8), (0, .ref (mA G 0))]) hx hb d_GM_step_9 rfl hl (by decide) rfl (fun ls hl => ?_)
  refine lv_iload_n hx hb d_GM_step_10 rfl (lv_at hl 0 rfl) ?_
  refine vp_callSi (W.runS (As := [.int x8]) (rest := []) ⟨hx, hb, hml, hown, hts⟩ (c_GM_isLetter l x8) (cwS 1 hts (gS kw527 kw528 kw7 kw529) rfl rfl rfl (by decide +kernel) ⟨by show (1 : Nat) + 1 ≤ 4; omega, by show 8 + (1 + 11) + 22 ≤ 95; omega⟩) ⟨blindNM, fun U hU hW => ⟨rfl, trivial⟩⟩ rfl rfl hl.1 rfl (lv_room (Nat.le_of_ble_eq_true rfl)) d_GM_step_11 ⟨Nat.zero_le _, Nat.zero_le _⟩) (fun x11 ex11 => ?_)
  obtain ⟨ex11, bx11⟩ := ex11
  have hF := lt_of hF ex11
  obtain ⟨k174, hk174, hF⟩ := jn_of hF
  have join174 : ∀ (T1 : MS) (H : Heap) (locs : List Loc) (ls : Array Slot), k174 T1 = some R → va_P D vwCl (wM G T1) H → va_D A (wM G T1) → va_S A s.heap H locs → lv_has ls 3 [(1, .int x8), (0, .ref (mA G 0))] → W p l e (headSpec ws_GM_step ({ frames := 4, cells := 0, slots := 0, locals := 95 })).room s m ([.ref (mA G 0)] : List Value).toArray below meth c H locs 0 0 (MQ below (va_Qv (fun S' : MS => S' = R) (wX D G A) A) ([.ref (mA G 0)] : List Value).toArray s 0 0 A) (F0 m 174 ls []) := by
    intro T174 H locs ls hF hP hD hS hl
    rw [hk174] at hF
    refine lv_aload_n hx hb d_GM_step_174 rfl (lv_at hl 1 rfl) ?_
    obtain ⟨S175, hq175, hF⟩ := bd_of hF
    refine dq_v (va_runV (As := []) (rest := []) ⟨hx, hb, hml, hown, hts⟩ (c_GM_settle l D G T174 _  S175 hq175) (cwV 0 hts (gV kw573 kw574 kw662 kw7 kw575) rfl rfl rfl (by decide +kernel) ⟨by show (0 : Nat) + 1 ≤ 4; omega, by show 8 + (3 + 11) + 0 ≤ 95; omega⟩) ⟨blindM, va_recv (ci := 6) (q0 := 0) hK hP rfl (m_0 G T174), fun U hU hW => ⟨rfl, mPre_of hP hK hD hU hW⟩⟩ rfl rfl hl.1 rfl (lv_room (Nat.le_of_ble_eq_true rfl)) d_GM_step_175 ⟨Nat.zero_le _, Nat.zero_le _⟩) hD hS hA (fun rS175 H locs hw hP hD hS => ?_)
    have hw := hw.symm
    subst hw
    exact W.vret hx hb hr (fun t ht hW => ⟨⟨S175, rfl, Option.some.inj hF, by rw [ht]; exact hP, hD⟩, hS.F ht⟩) hS.2.2 d_GM_step_178
  refine lv_if_eq (tgt := 62) hx hb d_GM_step_14 (by decide) (fun c_14 => ?_) (fun c_14 => ?_)
  · have hF := ps_of c_14 hF
    refine lv_iload_n hx hb d_GM_step_62 rfl (lv_at hl 0 rfl) ?_
    refine lv_bipush (v := 63) hx hb d_GM_step_63 (by decide) ?_
    obtain ⟨k74, hk74, hF⟩ := jn_of hF
    have join74 : ∀ (T1 : MS) (H : Heap) (locs : List Loc) (ls : Array Slot), k74 T1 = some R → va_P D vwCl (wM G T1) H → va_D A (wM G T1) → va_S A s.heap H locs → lv_has ls 3 [(1, .int x8), (0, .ref (mA G 0))] → W p l e (headSpec ws_GM_step ({ frames := 4, cells := 0, slots := 0, locals := 95 })).room s m ([.ref (mA G 0)] : List Value).toArray below meth c H locs 0 0 (MQ below (va_Qv (fun S' : MS => S' = R) (wX D G A) A) ([.ref (mA G 0)] : List Value).toArray s 0 0 A) (F0 m 74 ls []) := by
      intro T74 H locs ls hF hP hD hS hl
      rw [hk74] at hF
      refine lv_aload_n hx hb d_GM_step_74 rfl (lv_at hl 1 rfl) ?_
      refine lv_aload_n hx hb d_GM_step_75 rfl (lv_at hl 1 rfl) ?_
      refine va_get (D := D) (ci := 6) (v := .int (T74 0 21)) (C := R_GM) (T := T_GM) (N := 30) hx hb hts (fun w h => List.mem_cons_of_mem _ (in_GM w h)) hown hK hP 0 (m_0 G T74) rfl 21 (by decide) (hts _ (List.mem_cons_of_mem _ kw465)) (fun _ h9 => h9) rfl d_GM_step_76 ?_
      obtain ⟨S79, hq79, hF⟩ := bd_of hF
      refine dq_v (va_runV (As := [.int (T74 0 21)]) (rest := []) ⟨hx, hb, hml, hown, hts⟩ (c_GM_branch l D G T74 _ (T74 0 21) S79 hq79) (cwV 1 hts (gV kw583 kw584 kw664 kw7 kw585) rfl rfl rfl (by decide +kernel) ⟨by show (3 : Nat) + 1 ≤ 4; omega, by show 8 + (5 + 11) + 71 ≤ 95; omega⟩) ⟨blindM, va_recv (ci := 6) (q0 := 0) hK hP rfl (m_0 G T74), fun U hU hW => ⟨rfl, mPre_of hP hK hD hU hW⟩⟩ rfl rfl hl.1 rfl (lv_room (Nat.le_of_ble_eq_true rfl)) d_GM_step_79 ⟨Nat.zero_le _, Nat.zero_le _⟩) hD hS hA (fun rS79 H locs hw hP hD hS => ?_)
      have hw := hw.symm
      subst hw
      refine lv_goto (tgt := 174) hx hb d_GM_step_82 (by decide) ?_
      exact join174 S79 _ _ ls hF hP hD hS (lv_sub hl [0, 1] rfl)
    refine lv_icmp_eq (tgt := 74) hx hb d_GM_step_65 (by decide) (fun c_65 => ?_) (fun c_65 => ?_)
    · have hF := ps_of c_65 hF
      exact join74 S _ _ ls hF hP hD hS (lv_sub hl [0, 1] rfl)
    · have hF := ng_of c_65 hF
      refine lv_iload_n hx hb d_GM_step_68 rfl (lv_at hl 0 rfl) ?_
      refine lv_bipush (v := 64) hx hb d_GM_step_69 (by decide) ?_
      refine lv_icmp_ne (tgt := 85) hx hb d_GM_step_71 (by decide) (fun c_71 => ?_) (fun c_71 => ?_)
      · have hF := ng_of c_71 hF
        refine lv_iload_n hx hb d_GM_step_85 rfl (lv_at hl 0 rfl) ?_
        refine lv_bipush (v := 33) hx hb d_GM_step_86 (by decide) ?_
        refine lv_icmp_ne (tgt := 145) hx hb d_GM_step_88 (by decide) (fun c_88 => ?_) (fun c_88 => ?_)
        · have hF := ng_of c_88 hF
          refine lv_aload_n hx hb d_GM_step_145 rfl (lv_at hl 1 rfl) ?_
          refine va_get (D := D) (ci := 6) (v := .ref (mA G 12)) (C := R_GM) (T := T_GM) (N := 30) hx hb hts (fun w h => List.mem_cons_of_mem _ (in_GM w h)) hown hK hP 0 (m_0 G S) rfl 17 (by decide) (hts _ (List.mem_cons_of_mem _ kw461)) (fun _ h9 => h9) rfl d_GM_step_146 ?_
          refine lv_iload_n hx hb d_GM_step_149 rfl (lv_at hl 0 rfl) ?_
          refine lv_bipush (v := 97) hx hb d_GM_step_150 (by decide) ?_
          refine lv_isub hx hb d_GM_step_152 ?_
          refine lv_topi (fun x152 ex152 => ?_)
          have hF := lt_of hF ex152
          refine lv_aload_n hx hb d_GM_step_153 rfl (lv_at hl 1 rfl) ?_
          refine lv_aload_n hx hb d_GM_step_154 rfl (lv_at hl 1 rfl) ?_
          refine va_get (D := D) (ci := 6) (v := .int (S 0 21)) (C := R_GM) (T := T_GM) (N := 30) hx hb hts (fun w h => List.mem_cons_of_mem _ (in_GM w h)) hown hK hP 0 (m_0 G S) rfl 21 (by decide) (hts _ (List.mem_cons_of_mem _ kw465)) (fun _ h9 => h9) rfl d_GM_step_155 ?_
          refine lv_iconst (v := 2) hx hb d_GM_step_158 (by decide) ?_
          refine lv_iadd hx hb d_GM_step_159 ?_
          refine lv_topi (fun x159 ex159 => ?_)
          have hF := lt_of hF ex159
          obtain ⟨x160, S160, hq160, hF⟩ := bd2_of hF
          refine dq_i (va_runV (As := [.int x159]) (rest := [.int x152, .ref (mA G 12)]) ⟨hx, hb, hml, hown, hts⟩ (c_GM_work l D G S _ x159 (x160, S160) hq160) (cwV 1 hts (gV kw586 kw587 kw665 kw7 kw588) rfl rfl rfl (by decide +kernel) ⟨by show (2 : Nat) + 1 ≤ 4; omega, by show 8 + (7 + 11) + 45 ≤ 95; omega⟩) ⟨blindM, va_recv (ci := 6) (q0 := 0) hK hP rfl (m_0 G S), fun U hU hW => ⟨rfl, mPre_of hP hK hD hU hW⟩⟩ rfl rfl hl.1 rfl (lv_room (Nat.le_of_ble_eq_true rfl)) d_GM_step_160 ⟨Nat.zero_le _, Nat.zero_le _⟩) hD hS hA (fun rx160 rS160 H locs hw hP hD hS => ?_)
          obtain ⟨h1, h2⟩ := Prod.mk.inj hw
          have h1 := h1.symm
          have h2 := h2.symm
          subst h1
          subst h2
          obtain ⟨g163, hF⟩ := gd_of hF
          refine va_iastE (D := D) hx hb hK hP hD hS 12 0 (m_12 G S160) rfl (ix_in g163) (msta_12 G S160 x152.toNatClampNeg x160) d_GM_step_163 (fun H locs hP hD hS => ?_)
          obtain ⟨S163, eS163⟩ : ∃ y : MS, y = stM S160 12 x152.toNatClampNeg x160 := ⟨_, rfl⟩
          rw [← eS163] at hP hD
          have hF := lt_of hF eS163
          refine lv_aload_n hx hb d_GM_step_164 rfl (lv_at hl 1 rfl) ?_
          refine lv_aload_n hx hb d_GM_step_165 rfl (lv_at hl 1 rfl) ?_
          refine va_get (D := D) (ci := 6) (v := .int (S163 0 29)) (C := R_GM) (T := T_GM) (N := 30) hx hb hts (fun w h => List.mem_cons_of_mem _ (in_GM w h)) hown hK hP 0 (m_0 G S163) rfl 29 (by decide) (hts _ (List.mem_cons_of_mem _ kw473)) (fun _ h9 => h9) rfl d_GM_step_166 ?_
          refine lv_iconst (v := 1) hx hb d_GM_step_169 (by decide) ?_
          refine lv_iadd hx hb d_GM_step_170 ?_
          refine lv_topi (fun x170 ex170 => ?_)
          have hF := lt_of hF ex170
          refine va_putE (D := D) (ci := 6) (v := .int x170) (ty := .int) (C := R_GM) (T := T_GM) (N := 30) hx hb hts (fun w h => List.mem_cons_of_mem _ (in_GM w h)) t_GM t_GM_ok n_GM hown hK hP hD hS 0 (m_0 G S163) rfl 21 (by decide) (hts _ (List.mem_cons_of_mem _ kw465)) (fun _ h9 => h9) rfl (by decide +kernel) rfl rfl (Nat.le_of_ble_eq_true rfl) (mst_21 G S163 x170) d_GM_step_171 (fun H locs hP hD hS => ?_)
          obtain ⟨S171, eS171⟩ : ∃ y : MS, y = stM S163 0 21 x170 := ⟨_, rfl⟩
          rw [← eS171] at hP hD
          have hF := lt_of hF eS171
          exact join174 S171 _ _ ls hF hP hD hS (lv_sub hl [0, 1] rfl)
        · have hF := ps_of c_88 hF
          refine lv_aload_n hx hb d_GM_step_91 rfl (lv_at hl 1 rfl) ?_
          refine lv_aload_n hx hb d_GM_step_92 rfl (lv_at hl 1 rfl) ?_
          refine va_get (D := D) (ci := 6) (v := .int (S 0 21)) (C := R_GM) (T := T_GM) (N := 30) hx hb hts (fun w h => List.mem_cons_of_mem _ (in_GM w h)) hown hK hP 0 (m_0 G S) rfl 21 (by decide) (hts _ (List.mem_cons_of_mem _ kw465)) (fun _ h9 => h9) rfl d_GM_step_93 ?_
          refine lv_iconst (v := 1) hx hb d_GM_step_96 (by decide) ?_
          refine lv_iadd hx hb d_GM_step_97 ?_
          refine lv_topi (fun x97 ex97 => ?_)
          have hF := lt_of hF ex97
          obtain ⟨x98, S98, hq98, hF⟩ := bd2_of hF
          refine dq_i (va_runV (As := [.int x97]) (rest := []) ⟨hx, hb, hml, hown, hts⟩ (c_GM_work l D G S _ x97 (x98, S98) hq98) (cwV 1 hts (gV kw586 kw587 kw665 kw7 kw588) rfl rfl rfl (by decide +kernel) ⟨by show (2 : Nat) + 1 ≤ 4; omega, by show 8 + (7 + 11) + 45 ≤ 95; omega⟩) ⟨blindM, va_recv (ci := 6) (q0 := 0) hK hP rfl (m_0 G S), fun U hU hW => ⟨rfl, mPre_of hP hK hD hU hW⟩⟩ rfl rfl hl.1 rfl (lv_room (Nat.le_of_ble_eq_true rfl)) d_GM_step_98 ⟨Nat.zero_le _, Nat.zero_le _⟩) hD hS hA (fun rx98 rS98 H locs hw hP hD hS => ?_)
          obtain ⟨h1, h2⟩ := Prod.mk.inj hw
          have h1 := h1.symm
          have h2 := h2.symm
          subst h1
          subst h2
          refine lv_istore_n (lv' := [(2, .int x98), (1, .int x8), (0, .ref (mA G 0))]) hx hb d_GM_step_101 rfl hl (by decide) rfl (fun ls hl => ?_)
          refine lv_aload_n hx hb d_GM_step_102 rfl (lv_at hl 2 rfl) ?_
          refine va_get (D := D) (ci := 6) (v := .int (S98 0 19)) (C := R_GM) (T := T_GM) (N := 30) hx hb hts (fun w h => List.mem_cons_of_mem _ (in_GM w h)) hown hK hP 0 (m_0 G S98) rfl 19 (by decide) (hts _ (List.mem_cons_of_mem _ kw463)) (fun _ h9 => h9) rfl d_GM_step_103 ?_
          refine lv_bipush (v := 24) hx hb d_GM_step_106 (by decide) ?_
          obtain ⟨k122, hk122, hF⟩ := jn_of hF
          have join122 : ∀ (T1 : MS) (H : Heap) (locs : List Loc) (ls : Array Slot), k122 T1 = some R → va_P D vwCl (wM G T1) H → va_D A (wM G T1) → va_S A s.heap H locs → lv_has ls 3 [(2, .int x98), (1, .int x8), (0, .ref (mA G 0))] → W p l e (headSpec ws_GM_step ({ frames := 4, cells := 0, slots := 0, locals := 95 })).room s m ([.ref (mA G 0)] : List Value).toArray below meth c H locs 0 0 (MQ below (va_Qv (fun S' : MS => S' = R) (wX D G A) A) ([.ref (mA G 0)] : List Value).toArray s 0 0 A) (F0 m 122 ls []) := by
            intro T122 H locs ls hF hP hD hS hl
            rw [hk122] at hF
            refine lv_aload_n hx hb d_GM_step_122 rfl (lv_at hl 2 rfl) ?_
            refine lv_dup hx hb d_GM_step_123 rfl ?_
            refine va_get (D := D) (ci := 6) (v := .int (T122 0 19)) (C := R_GM) (T := T_GM) (N := 30) hx hb hts (fun w h => List.mem_cons_of_mem _ (in_GM w h)) hown hK hP 0 (m_0 G T122) rfl 19 (by decide) (hts _ (List.mem_cons_of_mem _ kw463)) (fun _ h9 => h9) rfl d_GM_step_124 ?_
            refine lv_iconst (v := 1) hx hb d_GM_step_127 (by decide) ?_
            refine lv_iadd hx hb d_GM_step_128 ?_
            refine lv_topi (fun x128 ex128 => ?_)
            have hF := lt_of hF ex128
            refine va_putE (D := D) (ci := 6) (v := .int x128) (ty := .int) (C := R_GM) (T := T_GM) (N := 30) hx hb hts (fun w h => List.mem_cons_of_mem _ (in_GM w h)) t_GM t_GM_ok n_GM hown hK hP hD hS 0 (m_0 G T122) rfl 19 (by decide) (hts _ (List.mem_cons_of_mem _ kw463)) (fun _ h9 => h9) rfl (by decide +kernel) rfl rfl (Nat.le_of_ble_eq_true rfl) (mst_19 G T122 x128) d_GM_step_129 (fun H locs hP hD hS => ?_)
            obtain ⟨S129, eS129⟩ : ∃ y : MS, y = stM T122 0 19 x128 := ⟨_, rfl⟩
            rw [← eS129] at hP hD
            have hF := lt_of hF eS129
            refine lv_aload_n hx hb d_GM_step_132 rfl (lv_at hl 2 rfl) ?_
            refine lv_aload_n hx hb d_GM_step_133 rfl (lv_at hl 2 rfl) ?_
            refine va_get (D := D) (ci := 6) (v := .int (S129 0 29)) (C := R_GM) (T := T_GM) (N := 30) hx hb hts (fun w h => List.mem_cons_of_mem _ (in_GM w h)) hown hK hP 0 (m_0 G S129) rfl 29 (by decide) (hts _ (List.mem_cons_of_mem _ kw473)) (fun _ h9 => h9) rfl d_GM_step_134 ?_
            refine lv_iconst (v := 1) hx hb d_GM_step_137 (by decide) ?_
            refine lv_iadd hx hb d_GM_step_138 ?_
            refine lv_topi (fun x138 ex138 => ?_)
            have hF := lt_of hF ex138
            refine va_putE (D := D) (ci := 6) (v := .int x138) (ty := .int) (C := R_GM) (T := T_GM) (N := 30) hx hb hts (fun w h => List.mem_cons_of_mem _ (in_GM w h)) t_GM t_GM_ok n_GM hown hK hP hD hS 0 (m_0 G S129) rfl 21 (by decide) (hts _ (List.mem_cons_of_mem _ kw465)) (fun _ h9 => h9) rfl (by decide +kernel) rfl rfl (Nat.le_of_ble_eq_true rfl) (mst_21 G S129 x138) d_GM_step_139 (fun H locs hP hD hS => ?_)
            obtain ⟨S139, eS139⟩ : ∃ y : MS, y = stM S129 0 21 x138 := ⟨_, rfl⟩
            rw [← eS139] at hP hD
            have hF := lt_of hF eS139
            refine lv_goto (tgt := 174) hx hb d_GM_step_142 (by decide) ?_
            exact join174 S139 _ _ ls hF hP hD hS (lv_sub hl [1, 2] rfl)
          refine lv_icmp_ge (tgt := 122) hx hb d_GM_step_108 (by decide) (fun c_108 => ?_) (fun c_108 => ?_)
          · have hF := ps_of c_108 hF
            exact join122 S98 _ _ ls hF hP hD hS (lv_sub hl [0, 1, 2] rfl)
          · have hF := ng_of c_108 hF
            refine lv_aload_n hx hb d_GM_step_111 rfl (lv_at hl 2 rfl) ?_
            refine va_get (D := D) (ci := 6) (v := .ref (mA G 13)) (C := R_GM) (T := T_GM) (N := 30) hx hb hts (fun w h => List.mem_cons_of_mem _ (in_GM w h)) hown hK hP 0 (m_0 G S98) rfl 18 (by decide) (hts _ (List.mem_cons_of_mem _ kw462)) (fun _ h9 => h9) rfl d_GM_step_112 ?_
            refine lv_aload_n hx hb d_GM_step_115 rfl (lv_at hl 2 rfl) ?_
            refine va_get (D := D) (ci := 6) (v := .int (S98 0 19)) (C := R_GM) (T := T_GM) (N := 30) hx hb hts (fun w h => List.mem_cons_of_mem _ (in_GM w h)) hown hK hP 0 (m_0 G S98) rfl 19 (by decide) (hts _ (List.mem_cons_of_mem _ kw463)) (fun _ h9 => h9) rfl d_GM_step_116 ?_
            refine lv_iload_n hx hb d_GM_step_119 rfl (lv_at hl 0 rfl) ?_
            refine lv_i2l (v := x98.toInt64) hx hb d_GM_step_120 rfl ?_
            obtain ⟨g121, hF⟩ := gd_of hF
            refine va_lastE (D := D) hx hb hK hP hD hS 13 2 (m_13 G S98) rfl (ix_in g121) (msta_13 G S98 (S98 0 19).toNatClampNeg x98) d_GM_step_121 (fun H locs hP hD hS => ?_)
            obtain ⟨S121, eS121⟩ : ∃ y : MS, y = stM S98 13 (S98 0 19).toNatClampNeg x98 := ⟨_, rfl⟩
            rw [← eS121] at hP hD
            have hF := lt_of hF eS121
            exact join122 S121 _ _ ls hF hP hD hS (lv_sub hl [0, 1, 2] rfl)
      · have hF := ps_of c_71 hF
        exact join74 S _ _ ls hF hP hD hS (lv_sub hl [0, 1] rfl)
  · have hF := ng_of c_14 hF
    refine lv_aload_n hx hb d_GM_step_17 rfl (lv_at hl 1 rfl) ?_
    refine va_get (D := D) (ci := 6) (v := .ref (mA G 14)) (C := R_GM) (T := T_GM) (N := 30) hx hb hts (fun w h => List.mem_cons_of_mem _ (in_GM w h)) hown hK hP 0 (m_0 G S) rfl 22 (by decide) (hts _ (List.mem_cons_of_mem _ kw466)) (fun _ h9 => h9) rfl d_GM_step_18 ?_
    refine lv_aload_n hx hb d_GM_step_21 rfl (lv_at hl 1 rfl) ?_
    refine va_get (D := D) (ci := 6) (v := .int (S 0 23)) (C := R_GM) (T := T_GM) (N := 30) hx hb hts (fun w h => List.mem_cons_of_mem _ (in_GM w h)) hown hK hP 0 (m_0 G S) rfl 23 (by decide) (hts _ (List.mem_cons_of_mem _ kw467)) (fun _ h9 => h9) rfl d_GM_step_22 ?_
    refine lv_iconst (v := 1) hx hb d_GM_step_25 (by decide) ?_
    refine lv_isub hx hb d_GM_step_26 ?_
    refine lv_topi (fun x26 ex26 => ?_)
    have hF := lt_of hF ex26
    refine lv_aload_n hx hb d_GM_step_27 rfl (lv_at hl 1 rfl) ?_
    refine va_get (D := D) (ci := 6) (v := .int (S 0 21)) (C := R_GM) (T := T_GM) (N := 30) hx hb hts (fun w h => List.mem_cons_of_mem _ (in_GM w h)) hown hK hP 0 (m_0 G S) rfl 21 (by decide) (hts _ (List.mem_cons_of_mem _ kw465)) (fun _ h9 => h9) rfl d_GM_step_28 ?_
    refine lv_iconst (v := 2) hx hb d_GM_step_31 (by decide) ?_
    refine lv_iadd hx hb d_GM_step_32 ?_
    refine lv_topi (fun x32 ex32 => ?_)
    have hF := lt_of hF ex32
    obtain ⟨g33, hF⟩ := gd_of hF
    refine va_iastE (D := D) hx hb hK hP hD hS 14 0 (m_14 G S) rfl (ix_in g33) (msta_14 G S x26.toNatClampNeg x32) d_GM_step_33 (fun H locs hP hD hS => ?_)
    obtain ⟨S33, eS33⟩ : ∃ y : MS, y = stM S 14 x26.toNatClampNeg x32 := ⟨_, rfl⟩
    rw [← eS33] at hP hD
    have hF := lt_of hF eS33
    refine lv_aload_n hx hb d_GM_step_34 rfl (lv_at hl 1 rfl) ?_
    refine lv_dup hx hb d_GM_step_35 rfl ?_
    refine va_get (D := D) (ci := 6) (v := .int (S33 0 23)) (C := R_GM) (T := T_GM) (N := 30) hx hb hts (fun w h => List.mem_cons_of_mem _ (in_GM w h)) hown hK hP 0 (m_0 G S33) rfl 23 (by decide) (hts _ (List.mem_cons_of_mem _ kw467)) (fun _ h9 => h9) rfl d_GM_step_36 ?_
    refine lv_iconst (v := 1) hx hb d_GM_step_39 (by decide) ?_
    refine lv_iadd hx hb d_GM_step_40 ?_
    refine lv_topi (fun x40 ex40 => ?_)
    have hF := lt_of hF ex40
    refine va_putE (D := D) (ci := 6) (v := .int x40) (ty := .int) (C := R_GM) (T := T_GM) (N := 30) hx hb hts (fun w h => List.mem_cons_of_mem _ (in_GM w h)) t_GM t_GM_ok n_GM hown hK hP hD hS 0 (m_0 G S33) rfl 23 (by decide) (hts _ (List.mem_cons_of_mem _ kw467)) (fun _ h9 => h9) rfl (by decide +kernel) rfl rfl (Nat.le_of_ble_eq_true rfl) (mst_23 G S33 x40) d_GM_step_41 (fun H locs hP hD hS => ?_)
    obtain ⟨S41, eS41⟩ : ∃ y : MS, y = stM S33 0 23 x40 := ⟨_, rfl⟩
    rw [← eS41] at hP hD
    have hF := lt_of hF eS41
    refine lv_aload_n hx hb d_GM_step_44 rfl (lv_at hl 1 rfl) ?_
    refine lv_aload_n hx hb d_GM_step_45 rfl (lv_at hl 1 rfl) ?_
    refine va_get (D := D) (ci := 6) (v := .ref (mA G 10)) (C := R_GM) (T := T_GM) (N := 30) hx hb hts (fun w h => List.mem_cons_of_mem _ (in_GM w h)) hown hK hP 0 (m_0 G S41) rfl 15 (by decide) (hts _ (List.mem_cons_of_mem _ kw459)) (fun _ h9 => h9) rfl d_GM_step_46 ?_
    refine lv_iload_n hx hb d_GM_step_49 rfl (lv_at hl 0 rfl) ?_
    refine lv_bipush (v := 65) hx hb d_GM_step_50 (by decide) ?_
    refine lv_isub hx hb d_GM_step_52 ?_
    refine lv_topi (fun x52 ex52 => ?_)
    have hF := lt_of hF ex52
    obtain ⟨g53, hF⟩ := gd_of hF
    refine va_iald (D := D) hx hb hK hP 10 0 (m_10 G S41) rfl (ix_in g53) d_GM_step_53 ?_
    refine lv_topi (fun x53 ex53 => ?_)
    have hF := lt_of hF ex53
    refine lv_iconst (v := 1) hx hb d_GM_step_54 (by decide) ?_
    refine lv_iadd hx hb d_GM_step_55 ?_
    refine lv_topi (fun x55 ex55 => ?_)
    have hF := lt_of hF ex55
    refine va_putE (D := D) (ci := 6) (v := .int x55) (ty := .int) (C := R_GM) (T := T_GM) (N := 30) hx hb hts (fun w h => List.mem_cons_of_mem _ (in_GM w h)) t_GM t_GM_ok n_GM hown hK hP hD hS 0 (m_0 G S41) rfl 21 (by decide) (hts _ (List.mem_cons_of_mem _ kw465)) (fun _ h9 => h9) rfl (by decide +kernel) rfl rfl (Nat.le_of_ble_eq_true rfl) (mst_21 G S41 x55) d_GM_step_56 (fun H locs hP hD hS => ?_)
    obtain ⟨S56, eS56⟩ : ∃ y : MS, y = stM S41 0 21 x55 := ⟨_, rfl⟩
    rw [← eS56] at hP hD
    have hF := lt_of hF eS56
    refine lv_goto (tgt := 174) hx hb d_GM_step_59 (by decide) ?_
    exact join174 S56 _ _ ls hF hP hD hS (lv_sub hl [0, 1] rfl)
set_option maxHeartbeats 4000000 in
set_option maxRecDepth 100000 in
theorem c_GM_run (l : Launch) (D : va_G) (G : MP) (S : MS) (sz : Nat) (p1 : Int32) (R : (Int32 × MS)) (hF : f_GM_run S p1 = some R) : Met l y_GM_run ws_GM_run ({ frames := 5, cells := 0, slots := 0, locals := 117 }) (va_Pc [.ref (mA G 0), .int p1] (mPre D G S sz)) (va_Qi (fun (r : Int32) (S' : MS) => (r, S') = R) (wX D G (va_A (wM G S) sz)) (va_A (wM G S) sz)) 0 0 (va_A (wM G S) sz) := by
  refine Met.ofW (cc := b_GM_run) (maxL := 3) (ret := (some .int)) (by decide) rfl ?_
  intro p e s m args below meth c s₁ B hml hv
  obtain ⟨rfl, hsz, hP, hK, hD0⟩ := hv
  have hx := B.exec
  have hb := B.bytes
  have hr := B.returns
  have hts := atoms_spec (ws := ws_GM_run) B.pre
  have hown : s.vm.findClass R_GM = some m.cls := findClass_of_methodNamed B.named
  have hlocks := B.notSynchronized
  subst hsz
  have hD := hD0.self (sz := s.heap.size)
  generalize hAe : va_A (wM G S) s.heap.size = A at hD ⊢
  have hA : ∀ q : Nat, s.heap.size ≤ q → A q := fun q h => by rw [← hAe]; exact Or.inr h
  have hS : va_S A s.heap s.heap [] := va_S.rf
  have hl := lv_entry ([.ref (mA G 0), .int p1]) (n := 3) (Nat.le_of_ble_eq_true rfl)
  rw [lg_entry_eq]
  generalize (lg_sl ([.ref (mA G 0), .int p1]) ++ List.replicate (3 - (lg_sl ([.ref (mA G 0), .int p1])).length) Slot.unset).toArray = ls at hl ⊢
  have hl : lv_has ls 3 [(0, .ref (mA G 0)), (1, .int p1)] := hl
  unfold f_GM_run at hF
  refine lv_iload_n hx hb d_GM_run_0 rfl (lv_at hl 1 rfl) ?_
  refine lv_iconst (v := 1) hx hb d_GM_run_1 (by decide) ?_
  refine lv_iconst (v := 4) hx hb d_GM_run_2 (by decide) ?_
  refine vp_callSi (W.runS (As := [.int p1, .int 1, .int 4]) (rest := []) ⟨hx, hb, hml, hown, hts⟩ (c_GM_in l p1 1 4) (cwS 3 hts (gS kw510 kw511 kw7 kw512) rfl rfl rfl (by decide +kernel) ⟨by show (0 : Nat) + 1 ≤ 5; omega, by show 8 + (3 + 11) + 0 ≤ 117; omega⟩) ⟨blindNM, fun U hU hW => ⟨rfl, trivial⟩⟩ rfl rfl hl.1 rfl (lv_room (Nat.le_of_ble_eq_true rfl)) d_GM_run_3 ⟨Nat.zero_le _, Nat.zero_le _⟩) (fun x3 ex3 => ?_)
  obtain ⟨ex3, bx3⟩ := ex3
  have hF := lt_of hF ex3
  obtain ⟨k16, hk16, hF⟩ := jn_of hF
  have join16 : ∀ (T1 : MS) (H : Heap) (locs : List Loc) (ls : Array Slot), k16 T1 = some R → va_P D vwCl (wM G T1) H → va_D A (wM G T1) → va_S A s.heap H locs → lv_has ls 3 [(0, .ref (mA G 0)), (1, .int p1)] → W p l e (headSpec ws_GM_run ({ frames := 5, cells := 0, slots := 0, locals := 117 })).room s m ([.ref (mA G 0), .int p1] : List Value).toArray below meth c H locs 0 0 (MQ below (va_Qi (fun (r : Int32) (S' : MS) => (r, S') = R) (wX D G A) A) ([.ref (mA G 0), .int p1] : List Value).toArray s 0 0 A) (F0 m 16 ls []) := by
    intro T16 H locs ls hF hP hD hS hl
    rw [hk16] at hF
    refine lv_iconst (v := (-1)) hx hb d_GM_run_16 (by decide) ?_
    exact W.iret (v := (-1)) hx hb hr (fun t ht hW => ⟨⟨(-1), T16, rfl, Option.some.inj hF, by rw [ht]; exact hP, hD⟩, hS.F ht⟩) hS.2.2 d_GM_run_17
  refine lv_if_eq (tgt := 16) hx hb d_GM_run_6 (by decide) (fun c_6 => ?_) (fun c_6 => ?_)
  · have hF := ps_of c_6 hF
    exact join16 S _ _ ls hF hP hD hS (lv_sub hl [0, 1] rfl)
  · have hF := ng_of c_6 hF
    refine lv_aload_n hx hb d_GM_run_9 rfl (lv_at hl 0 rfl) ?_
    refine va_get (D := D) (ci := 6) (v := .int (S 0 20)) (C := R_GM) (T := T_GM) (N := 30) hx hb hts (fun w h => List.mem_cons_of_mem _ (in_GM w h)) hown hK hP 0 (m_0 G S) rfl 20 (by decide) (hts _ (List.mem_cons_of_mem _ kw464)) (fun _ h9 => h9) rfl d_GM_run_10 ?_
    refine lv_if_ne (tgt := 18) hx hb d_GM_run_13 (by decide) (fun c_13 => ?_) (fun c_13 => ?_)
    · have hF := ng_of c_13 hF
      refine lv_iconst (v := 0) hx hb d_GM_run_18 (by decide) ?_
      refine lv_istore_n (lv' := [(2, .int 0), (0, .ref (mA G 0)), (1, .int p1)]) hx hb d_GM_run_19 rfl hl (by decide) rfl (fun ls hl => ?_)
      have loop20 : ∀ (K20 : MS → Int32 → Option (Int32 × MS)) (hexit : ∀ (S1 : MS) (y20_2 : Int32) (H : Heap) (locs : List Loc) (ls : Array Slot), K20 S1 y20_2 = some R → va_P D vwCl (wM G S1) H → va_D A (wM G S1) → va_S A s.heap H locs → lv_has ls 3 [(2, .int y20_2), (0, .ref (mA G 0)), (1, .int p1)] → W p l e (headSpec ws_GM_run ({ frames := 5, cells := 0, slots := 0, locals := 117 })).room s m ([.ref (mA G 0), .int p1] : List Value).toArray below meth c H locs 0 0 (MQ below (va_Qi (fun (r : Int32) (S' : MS) => (r, S') = R) (wX D G A) A) ([.ref (mA G 0), .int p1] : List Value).toArray s 0 0 A) (F0 m 42 ls [])) (n : Nat) (S1 : MS) (y20_2 : Int32) (H : Heap) (locs : List Loc) (ls : Array Slot), q_GM_run_20 n S1 p1 y20_2 K20 = some R → va_P D vwCl (wM G S1) H → va_D A (wM G S1) → va_S A s.heap H locs → lv_has ls 3 [(2, .int y20_2), (0, .ref (mA G 0)), (1, .int p1)] → W p l e (headSpec ws_GM_run ({ frames := 5, cells := 0, slots := 0, locals := 117 })).room s m ([.ref (mA G 0), .int p1] : List Value).toArray below meth c H locs 0 0 (MQ below (va_Qi (fun (r : Int32) (S' : MS) => (r, S') = R) (wX D G A) A) ([.ref (mA G 0), .int p1] : List Value).toArray s 0 0 A) (F0 m 20 ls []) := by
        intro K20 hexit20 n
        induction n with
        | zero => intro S1 y20_2 H locs ls hF; exact nomatch (show (none : Option (Int32 × MS)) = some R from hF)
        | succ n ih20 =>
          intro S20 y20_2 H locs ls hF hP hD hS hl
          rw [q_GM_run_20] at hF
          refine lv_iload_n hx hb d_GM_run_20 rfl (lv_at hl 0 rfl) ?_
          refine lv_iload_n hx hb d_GM_run_21 rfl (lv_at hl 2 rfl) ?_
          refine lv_icmp_ge (tgt := 42) hx hb d_GM_run_22 (by decide) (fun c_22 => ?_) (fun c_22 => ?_)
          · have hF := ps_of c_22 hF
            exact hexit20 S20 y20_2 _ _ ls hF hP hD hS (lv_sub hl [0, 1, 2] rfl)
          · have hF := ng_of c_22 hF
            refine lv_aload_n hx hb d_GM_run_25 rfl (lv_at hl 1 rfl) ?_
            refine va_get (D := D) (ci := 6) (v := .int (S20 0 20)) (C := R_GM) (T := T_GM) (N := 30) hx hb hts (fun w h => List.mem_cons_of_mem _ (in_GM w h)) hown hK hP 0 (m_0 G S20) rfl 20 (by decide) (hts _ (List.mem_cons_of_mem _ kw464)) (fun _ h9 => h9) rfl d_GM_run_26 ?_
            refine lv_if_eq (tgt := 42) hx hb d_GM_run_29 (by decide) (fun c_29 => ?_) (fun c_29 => ?_)
            · have hF := ps_of c_29 hF
              exact hexit20 S20 y20_2 _ _ ls hF hP hD hS (lv_sub hl [0, 1, 2] rfl)
            · have hF := ng_of c_29 hF
              refine lv_aload_n hx hb d_GM_run_32 rfl (lv_at hl 1 rfl) ?_
              obtain ⟨S33, hq33, hF⟩ := bd_of hF
              refine dq_v (va_runV (As := []) (rest := []) ⟨hx, hb, hml, hown, hts⟩ (c_GM_step l D G S20 _  S33 hq33) (cwV 0 hts (gV kw580 kw581 kw663 kw7 kw582) rfl rfl rfl (by decide +kernel) ⟨by show (4 : Nat) + 1 ≤ 5; omega, by show 8 + (3 + 11) + 95 ≤ 117; omega⟩) ⟨blindM, va_recv (ci := 6) (q0 := 0) hK hP rfl (m_0 G S20), fun U hU hW => ⟨rfl, mPre_of hP hK hD hU hW⟩⟩ rfl rfl hl.1 rfl (lv_room (Nat.le_of_ble_eq_true rfl)) d_GM_run_33 ⟨Nat.zero_le _, Nat.zero_le _⟩) hD hS hA (fun rS33 H locs hw hP hD hS => ?_)
              have hw := hw.symm
              subst hw
              obtain ⟨x36, ex36⟩ : ∃ y : Int32, y = y20_2 + 1 := ⟨_, rfl⟩
              have hF := lt_of hF ex36
              refine lv_iinc (v := x36) (lv' := [(2, .int x36), (0, .ref (mA G 0)), (1, .int p1)]) hx hb d_GM_run_36 hl (k := 0) rfl (by rw [ex36]; rfl) (by decide) rfl (fun ls hl => ?_)
              refine lv_goto (tgt := 20) hx hb d_GM_run_39 (by decide) ?_
              exact ih20 S33 x36 _ _ ls hF hP hD hS (lv_sub hl [0, 1, 2] rfl)
      refine loop20 _ ?_ (fz 2000) S 0 _ _ ls hF hP hD hS hl
      intro S42 y42_2 H locs ls hF hP hD hS hl
      refine lv_aload_n hx hb d_GM_run_42 rfl (lv_at hl 1 rfl) ?_
      refine va_get (D := D) (ci := 6) (v := .int (S42 0 20)) (C := R_GM) (T := T_GM) (N := 30) hx hb hts (fun w h => List.mem_cons_of_mem _ (in_GM w h)) hown hK hP 0 (m_0 G S42) rfl 20 (by decide) (hts _ (List.mem_cons_of_mem _ kw464)) (fun _ h9 => h9) rfl d_GM_run_43 ?_
      obtain ⟨k54, hk54, hF⟩ := jn_of hF
      have join54 : ∀ (T1 : MS) (z54 : Int32) (H : Heap) (locs : List Loc) (ls : Array Slot), k54 T1 z54 = some R → va_P D vwCl (wM G T1) H → va_D A (wM G T1) → va_S A s.heap H locs → lv_has ls 3 [(2, .int y42_2), (0, .ref (mA G 0)), (1, .int p1)] → W p l e (headSpec ws_GM_run ({ frames := 5, cells := 0, slots := 0, locals := 117 })).room s m ([.ref (mA G 0), .int p1] : List Value).toArray below meth c H locs 0 0 (MQ below (va_Qi (fun (r : Int32) (S' : MS) => (r, S') = R) (wX D G A) A) ([.ref (mA G 0), .int p1] : List Value).toArray s 0 0 A) (F0 m 54 ls [.int z54]) := by
        intro T54 z54 H locs ls hF hP hD hS hl
        rw [hk54] at hF
        exact W.iret (v := z54) hx hb hr (fun t ht hW => ⟨⟨z54, T54, rfl, Option.some.inj hF, by rw [ht]; exact hP, hD⟩, hS.F ht⟩) hS.2.2 d_GM_run_54
      refine lv_if_eq (tgt := 53) hx hb d_GM_run_46 (by decide) (fun c_46 => ?_) (fun c_46 => ?_)
      · have hF := ps_of c_46 hF
        refine lv_iconst (v := 0) hx hb d_GM_run_53 (by decide) ?_
        exact join54 S42 0 _ _ ls hF hP hD hS (lv_sub hl [0, 1, 2] rfl)
      · have hF := ng_of c_46 hF
        refine lv_iconst (v := 1) hx hb d_GM_run_49 (by decide) ?_
        refine lv_goto (tgt := 54) hx hb d_GM_run_50 (by decide) ?_
        exact join54 S42 1 _ _ ls hF hP hD hS (lv_sub hl [0, 1, 2] rfl)
    · have hF := ps_of c_13 hF
      exact join16 S _ _ ls hF hP hD hS (lv_sub hl [0, 1] rfl)
set_option maxHeartbeats 4000000 in
set_option maxRecDepth 100000 in
theorem c_GM_stop (l : Launch) (D : va_G) (G : MP) (S : MS) (sz : Nat) (R : (Int32 × MS)) (hF : f_GM_stop S  = some R) : Met l y_GM_stop ws_GM_stop ({ frames := 0, cells := 0, slots := 0, locals := 0 }) (va_Pc [.ref (mA G 0)] (mPre D G S sz)) (va_Qi (fun (r : Int32) (S' : MS) => (r, S') = R) (wX D G (va_A (wM G S) sz)) (va_A (wM G S) sz)) 0 0 (va_A (wM G S) sz) := by
  refine Met.ofW (cc := b_GM_stop) (maxL := 1) (ret := (some .int)) (by decide) rfl ?_
  intro p e s m args below meth c s₁ B hml hv
  obtain ⟨rfl, hsz, hP, hK, hD0⟩ := hv
  have hx := B.exec
  have hb := B.bytes
  have hr := B.returns
  have hts := atoms_spec (ws := ws_GM_stop) B.pre
  have hown : s.vm.findClass R_GM = some m.cls := findClass_of_methodNamed B.named
  have hlocks := B.notSynchronized
  subst hsz
  have hD := hD0.self (sz := s.heap.size)
  generalize hAe : va_A (wM G S) s.heap.size = A at hD ⊢
  have hA : ∀ q : Nat, s.heap.size ≤ q → A q := fun q h => by rw [← hAe]; exact Or.inr h
  have hS : va_S A s.heap s.heap [] := va_S.rf
  have hl := lv_entry ([.ref (mA G 0)]) (n := 1) (Nat.le_of_ble_eq_true rfl)
  rw [lg_entry_eq]
  generalize (lg_sl ([.ref (mA G 0)]) ++ List.replicate (1 - (lg_sl ([.ref (mA G 0)])).length) Slot.unset).toArray = ls at hl ⊢
  have hl : lv_has ls 1 [(0, .ref (mA G 0))] := hl
  unfold f_GM_stop at hF
  refine lv_aload_n hx hb d_GM_stop_0 rfl (lv_at hl 0 rfl) ?_
  refine va_get (D := D) (ci := 6) (v := .int (S 0 20)) (C := R_GM) (T := T_GM) (N := 30) hx hb hts (fun w h => List.mem_cons_of_mem _ (in_GM w h)) hown hK hP 0 (m_0 G S) rfl 20 (by decide) (hts _ (List.mem_cons_of_mem _ kw464)) (fun _ h9 => h9) rfl d_GM_stop_1 ?_
  refine lv_if_ne (tgt := 9) hx hb d_GM_stop_4 (by decide) (fun c_4 => ?_) (fun c_4 => ?_)
  · have hF := ng_of c_4 hF
    refine lv_aload_n hx hb d_GM_stop_9 rfl (lv_at hl 0 rfl) ?_
    refine lv_iconst (v := 0) hx hb d_GM_stop_10 (by decide) ?_
    refine va_putE (D := D) (ci := 6) (v := .int 0) (ty := .boolean) (C := R_GM) (T := T_GM) (N := 30) hx hb hts (fun w h => List.mem_cons_of_mem _ (in_GM w h)) t_GM t_GM_ok n_GM hown hK hP hD hS 0 (m_0 G S) rfl 20 (by decide) (hts _ (List.mem_cons_of_mem _ kw464)) (fun _ h9 => h9) rfl (by decide +kernel) (bl_nar (Or.inl rfl)) (bl_fit (Or.inl rfl)) (Nat.le_of_ble_eq_true rfl) (mst_20 G S 0) d_GM_stop_11 (fun H locs hP hD hS => ?_)
    obtain ⟨S11, eS11⟩ : ∃ y : MS, y = stM S 0 20 0 := ⟨_, rfl⟩
    rw [← eS11] at hP hD
    have hF := lt_of hF eS11
    refine lv_iconst (v := 0) hx hb d_GM_stop_14 (by decide) ?_
    exact W.iret (v := 0) hx hb hr (fun t ht hW => ⟨⟨0, S11, rfl, Option.some.inj hF, by rw [ht]; exact hP, hD⟩, hS.F ht⟩) hS.2.2 d_GM_stop_15
  · have hF := ps_of c_4 hF
    refine lv_iconst (v := (-1)) hx hb d_GM_stop_7 (by decide) ?_
    exact W.iret (v := (-1)) hx hb hr (fun t ht hW => ⟨⟨(-1), S, rfl, Option.some.inj hF, by rw [ht]; exact hP, hD⟩, hS.F ht⟩) hS.2.2 d_GM_stop_8
set_option maxHeartbeats 4000000 in
set_option maxRecDepth 100000 in
theorem c_GM_set (l : Launch) (D : va_G) (G : MP) (S : MS) (sz : Nat) (p1 : Int32) (p2 : Int32) (R : (Int32 × MS)) (hF : f_GM_set S p1 p2 = some R) : Met l y_GM_set ws_GM_set ({ frames := 1, cells := 0, slots := 0, locals := 22 }) (va_Pc [.ref (mA G 0), .int p1, .int p2] (mPre D G S sz)) (va_Qi (fun (r : Int32) (S' : MS) => (r, S') = R) (wX D G (va_A (wM G S) sz)) (va_A (wM G S) sz)) 0 0 (va_A (wM G S) sz) := by
  refine Met.ofW (cc := b_GM_set) (maxL := 3) (ret := (some .int)) (by decide) rfl ?_
  intro p e s m args below meth c s₁ B hml hv
  obtain ⟨rfl, hsz, hP, hK, hD0⟩ := hv
  have hx := B.exec
  have hb := B.bytes
  have hr := B.returns
  have hts := atoms_spec (ws := ws_GM_set) B.pre
  have hown : s.vm.findClass R_GM = some m.cls := findClass_of_methodNamed B.named
  have hlocks := B.notSynchronized
  subst hsz
  have hD := hD0.self (sz := s.heap.size)
  generalize hAe : va_A (wM G S) s.heap.size = A at hD ⊢
  have hA : ∀ q : Nat, s.heap.size ≤ q → A q := fun q h => by rw [← hAe]; exact Or.inr h
  have hS : va_S A s.heap s.heap [] := va_S.rf
  have hl := lv_entry ([.ref (mA G 0), .int p1, .int p2]) (n := 3) (Nat.le_of_ble_eq_true rfl)
  rw [lg_entry_eq]
  generalize (lg_sl ([.ref (mA G 0), .int p1, .int p2]) ++ List.replicate (3 - (lg_sl ([.ref (mA G 0), .int p1, .int p2])).length) Slot.unset).toArray = ls at hl ⊢
  have hl : lv_has ls 3 [(0, .ref (mA G 0)), (1, .int p1), (2, .int p2)] := hl
  unfold f_GM_set at hF
  refine lv_iload_n hx hb d_GM_set_0 rfl (lv_at hl 1 rfl) ?_
  refine lv_iconst (v := 0) hx hb d_GM_set_1 (by decide) ?_
  refine lv_bipush (v := 7) hx hb d_GM_set_2 (by decide) ?_
  refine vp_callSi (W.runS (As := [.int p1, .int 0, .int 7]) (rest := []) ⟨hx, hb, hml, hown, hts⟩ (c_GM_in l p1 0 7) (cwS 3 hts (gS kw510 kw511 kw7 kw512) rfl rfl rfl (by decide +kernel) ⟨by show (0 : Nat) + 1 ≤ 1; omega, by show 8 + (3 + 11) + 0 ≤ 22; omega⟩) ⟨blindNM, fun U hU hW => ⟨rfl, trivial⟩⟩ rfl rfl hl.1 rfl (lv_room (Nat.le_of_ble_eq_true rfl)) d_GM_set_4 ⟨Nat.zero_le _, Nat.zero_le _⟩) (fun x4 ex4 => ?_)
  obtain ⟨ex4, bx4⟩ := ex4
  have hF := lt_of hF ex4
  refine lv_if_ne (tgt := 12) hx hb d_GM_set_7 (by decide) (fun c_7 => ?_) (fun c_7 => ?_)
  · have hF := ng_of c_7 hF
    refine lv_aload_n hx hb d_GM_set_12 rfl (lv_at hl 0 rfl) ?_
    refine va_get (D := D) (ci := 6) (v := .ref (mA G 12)) (C := R_GM) (T := T_GM) (N := 30) hx hb hts (fun w h => List.mem_cons_of_mem _ (in_GM w h)) hown hK hP 0 (m_0 G S) rfl 17 (by decide) (hts _ (List.mem_cons_of_mem _ kw461)) (fun _ h9 => h9) rfl d_GM_set_13 ?_
    refine lv_iload_n hx hb d_GM_set_16 rfl (lv_at hl 1 rfl) ?_
    refine lv_iload_n hx hb d_GM_set_17 rfl (lv_at hl 2 rfl) ?_
    obtain ⟨g18, hF⟩ := gd_of hF
    refine va_iastE (D := D) hx hb hK hP hD hS 12 0 (m_12 G S) rfl (ix_in g18) (msta_12 G S p1.toNatClampNeg p2) d_GM_set_18 (fun H locs hP hD hS => ?_)
    obtain ⟨S18, eS18⟩ : ∃ y : MS, y = stM S 12 p1.toNatClampNeg p2 := ⟨_, rfl⟩
    rw [← eS18] at hP hD
    have hF := lt_of hF eS18
    refine lv_iconst (v := 0) hx hb d_GM_set_19 (by decide) ?_
    exact W.iret (v := 0) hx hb hr (fun t ht hW => ⟨⟨0, S18, rfl, Option.some.inj hF, by rw [ht]; exact hP, hD⟩, hS.F ht⟩) hS.2.2 d_GM_set_20
  · have hF := ps_of c_7 hF
    refine lv_iconst (v := (-1)) hx hb d_GM_set_10 (by decide) ?_
    exact W.iret (v := (-1)) hx hb hr (fun t ht hW => ⟨⟨(-1), S, rfl, Option.some.inj hF, by rw [ht]; exact hP, hD⟩, hS.F ht⟩) hS.2.2 d_GM_set_11
set_option maxHeartbeats 4000000 in
set_option maxRecDepth 100000 in
theorem c_GM_get (l : Launch) (D : va_G) (G : MP) (S : MS) (sz : Nat) (p1 : Int32) (R : (Int64 × MS)) (hF : f_GM_get S p1 = some R) : Met l y_GM_get ws_GM_get ({ frames := 1, cells := 0, slots := 0, locals := 22 }) (va_Pc [.ref (mA G 0), .int p1] (mPre D G S sz)) (va_Ql (fun (r : Int64) (S' : MS) => (r, S') = R) (wX D G (va_A (wM G S) sz)) (va_A (wM G S) sz)) 0 0 (va_A (wM G S) sz) := by
  refine Met.ofW (cc := b_GM_get) (maxL := 2) (ret := (some .long)) (by decide) rfl ?_
  intro p e s m args below meth c s₁ B hml hv
  obtain ⟨rfl, hsz, hP, hK, hD0⟩ := hv
  have hx := B.exec
  have hb := B.bytes
  have hr := B.returns
  have hts := atoms_spec (ws := ws_GM_get) B.pre
  have hown : s.vm.findClass R_GM = some m.cls := findClass_of_methodNamed B.named
  have hlocks := B.notSynchronized
  subst hsz
  have hD := hD0.self (sz := s.heap.size)
  generalize hAe : va_A (wM G S) s.heap.size = A at hD ⊢
  have hA : ∀ q : Nat, s.heap.size ≤ q → A q := fun q h => by rw [← hAe]; exact Or.inr h
  have hS : va_S A s.heap s.heap [] := va_S.rf
  have hl := lv_entry ([.ref (mA G 0), .int p1]) (n := 2) (Nat.le_of_ble_eq_true rfl)
  rw [lg_entry_eq]
  generalize (lg_sl ([.ref (mA G 0), .int p1]) ++ List.replicate (2 - (lg_sl ([.ref (mA G 0), .int p1])).length) Slot.unset).toArray = ls at hl ⊢
  have hl : lv_has ls 2 [(0, .ref (mA G 0)), (1, .int p1)] := hl
  unfold f_GM_get at hF
  refine lv_iload_n hx hb d_GM_get_0 rfl (lv_at hl 1 rfl) ?_
  refine lv_iconst (v := 0) hx hb d_GM_get_1 (by decide) ?_
  refine lv_bipush (v := 7) hx hb d_GM_get_2 (by decide) ?_
  refine vp_callSi (W.runS (As := [.int p1, .int 0, .int 7]) (rest := []) ⟨hx, hb, hml, hown, hts⟩ (c_GM_in l p1 0 7) (cwS 3 hts (gS kw510 kw511 kw7 kw512) rfl rfl rfl (by decide +kernel) ⟨by show (0 : Nat) + 1 ≤ 1; omega, by show 8 + (3 + 11) + 0 ≤ 22; omega⟩) ⟨blindNM, fun U hU hW => ⟨rfl, trivial⟩⟩ rfl rfl hl.1 rfl (lv_room (Nat.le_of_ble_eq_true rfl)) d_GM_get_4 ⟨Nat.zero_le _, Nat.zero_le _⟩) (fun x4 ex4 => ?_)
  obtain ⟨ex4, bx4⟩ := ex4
  have hF := lt_of hF ex4
  obtain ⟨k23, hk23, hF⟩ := jn_of hF
  have join23 : ∀ (T1 : MS) (z23 : Int64) (H : Heap) (locs : List Loc) (ls : Array Slot), k23 T1 z23 = some R → va_P D vwCl (wM G T1) H → va_D A (wM G T1) → va_S A s.heap H locs → lv_has ls 2 [(0, .ref (mA G 0)), (1, .int p1)] → W p l e (headSpec ws_GM_get ({ frames := 1, cells := 0, slots := 0, locals := 22 })).room s m ([.ref (mA G 0), .int p1] : List Value).toArray below meth c H locs 0 0 (MQ below (va_Ql (fun (r : Int64) (S' : MS) => (r, S') = R) (wX D G A) A) ([.ref (mA G 0), .int p1] : List Value).toArray s 0 0 A) (F0 m 23 ls [.long z23]) := by
    intro T23 z23 H locs ls hF hP hD hS hl
    rw [hk23] at hF
    exact W.lret (v := z23) hx hb hr (fun t ht hW => ⟨⟨z23, T23, rfl, Option.some.inj hF, by rw [ht]; exact hP, hD⟩, hS.F ht⟩) hS.2.2 d_GM_get_23
  refine lv_if_eq (tgt := 20) hx hb d_GM_get_7 (by decide) (fun c_7 => ?_) (fun c_7 => ?_)
  · have hF := ps_of c_7 hF
    refine lv_ldc2 (v := (-1000000000000)) hx hb hown (hts _ (List.mem_cons_of_mem _ kw607)) d_GM_get_20 ?_
    exact join23 S (-1000000000000) _ _ ls hF hP hD hS (lv_sub hl [0, 1] rfl)
  · have hF := ng_of c_7 hF
    refine lv_aload_n hx hb d_GM_get_10 rfl (lv_at hl 0 rfl) ?_
    refine va_get (D := D) (ci := 6) (v := .ref (mA G 12)) (C := R_GM) (T := T_GM) (N := 30) hx hb hts (fun w h => List.mem_cons_of_mem _ (in_GM w h)) hown hK hP 0 (m_0 G S) rfl 17 (by decide) (hts _ (List.mem_cons_of_mem _ kw461)) (fun _ h9 => h9) rfl d_GM_get_11 ?_
    refine lv_iload_n hx hb d_GM_get_14 rfl (lv_at hl 1 rfl) ?_
    obtain ⟨g15, hF⟩ := gd_of hF
    refine va_iald (D := D) hx hb hK hP 12 0 (m_12 G S) rfl (ix_in g15) d_GM_get_15 ?_
    refine lv_topi (fun x15 ex15 => ?_)
    have hF := lt_of hF ex15
    refine lv_i2l (v := x15.toInt64) hx hb d_GM_get_16 rfl ?_
    refine lv_goto (tgt := 23) hx hb d_GM_get_17 (by decide) ?_
    exact join23 S x15.toInt64 _ _ ls hF hP hD hS (lv_sub hl [0, 1] rfl)
set_option maxHeartbeats 4000000 in
set_option maxRecDepth 100000 in
theorem c_GM_output (l : Launch) (D : va_G) (G : MP) (S : MS) (sz : Nat) (p1 : Int32) (R : (Int64 × MS)) (hF : f_GM_output S p1 = some R) : Met l y_GM_output ws_GM_output ({ frames := 1, cells := 0, slots := 0, locals := 22 }) (va_Pc [.ref (mA G 0), .int p1] (mPre D G S sz)) (va_Ql (fun (r : Int64) (S' : MS) => (r, S') = R) (wX D G (va_A (wM G S) sz)) (va_A (wM G S) sz)) 0 0 (va_A (wM G S) sz) := by
  refine Met.ofW (cc := b_GM_output) (maxL := 2) (ret := (some .long)) (by decide) rfl ?_
  intro p e s m args below meth c s₁ B hml hv
  obtain ⟨rfl, hsz, hP, hK, hD0⟩ := hv
  have hx := B.exec
  have hb := B.bytes
  have hr := B.returns
  have hts := atoms_spec (ws := ws_GM_output) B.pre
  have hown : s.vm.findClass R_GM = some m.cls := findClass_of_methodNamed B.named
  have hlocks := B.notSynchronized
  subst hsz
  have hD := hD0.self (sz := s.heap.size)
  generalize hAe : va_A (wM G S) s.heap.size = A at hD ⊢
  have hA : ∀ q : Nat, s.heap.size ≤ q → A q := fun q h => by rw [← hAe]; exact Or.inr h
  have hS : va_S A s.heap s.heap [] := va_S.rf
  have hl := lv_entry ([.ref (mA G 0), .int p1]) (n := 2) (Nat.le_of_ble_eq_true rfl)
  rw [lg_entry_eq]
  generalize (lg_sl ([.ref (mA G 0), .int p1]) ++ List.replicate (2 - (lg_sl ([.ref (mA G 0), .int p1])).length) Slot.unset).toArray = ls at hl ⊢
  have hl : lv_has ls 2 [(0, .ref (mA G 0)), (1, .int p1)] := hl
  unfold f_GM_output at hF
  refine lv_iload_n hx hb d_GM_output_0 rfl (lv_at hl 1 rfl) ?_
  refine lv_iconst (v := 0) hx hb d_GM_output_1 (by decide) ?_
  refine lv_bipush (v := 23) hx hb d_GM_output_2 (by decide) ?_
  refine vp_callSi (W.runS (As := [.int p1, .int 0, .int 23]) (rest := []) ⟨hx, hb, hml, hown, hts⟩ (c_GM_in l p1 0 23) (cwS 3 hts (gS kw510 kw511 kw7 kw512) rfl rfl rfl (by decide +kernel) ⟨by show (0 : Nat) + 1 ≤ 1; omega, by show 8 + (3 + 11) + 0 ≤ 22; omega⟩) ⟨blindNM, fun U hU hW => ⟨rfl, trivial⟩⟩ rfl rfl hl.1 rfl (lv_room (Nat.le_of_ble_eq_true rfl)) d_GM_output_4 ⟨Nat.zero_le _, Nat.zero_le _⟩) (fun x4 ex4 => ?_)
  obtain ⟨ex4, bx4⟩ := ex4
  have hF := lt_of hF ex4
  obtain ⟨k30, hk30, hF⟩ := jn_of hF
  have join30 : ∀ (T1 : MS) (z30 : Int64) (H : Heap) (locs : List Loc) (ls : Array Slot), k30 T1 z30 = some R → va_P D vwCl (wM G T1) H → va_D A (wM G T1) → va_S A s.heap H locs → lv_has ls 2 [(0, .ref (mA G 0)), (1, .int p1)] → W p l e (headSpec ws_GM_output ({ frames := 1, cells := 0, slots := 0, locals := 22 })).room s m ([.ref (mA G 0), .int p1] : List Value).toArray below meth c H locs 0 0 (MQ below (va_Ql (fun (r : Int64) (S' : MS) => (r, S') = R) (wX D G A) A) ([.ref (mA G 0), .int p1] : List Value).toArray s 0 0 A) (F0 m 30 ls [.long z30]) := by
    intro T30 z30 H locs ls hF hP hD hS hl
    rw [hk30] at hF
    exact W.lret (v := z30) hx hb hr (fun t ht hW => ⟨⟨z30, T30, rfl, Option.some.inj hF, by rw [ht]; exact hP, hD⟩, hS.F ht⟩) hS.2.2 d_GM_output_30
  obtain ⟨k27, hk27, hF⟩ := jn_of hF
  have join27 : ∀ (T1 : MS) (H : Heap) (locs : List Loc) (ls : Array Slot), k27 T1 = some R → va_P D vwCl (wM G T1) H → va_D A (wM G T1) → va_S A s.heap H locs → lv_has ls 2 [(0, .ref (mA G 0)), (1, .int p1)] → W p l e (headSpec ws_GM_output ({ frames := 1, cells := 0, slots := 0, locals := 22 })).room s m ([.ref (mA G 0), .int p1] : List Value).toArray below meth c H locs 0 0 (MQ below (va_Ql (fun (r : Int64) (S' : MS) => (r, S') = R) (wX D G A) A) ([.ref (mA G 0), .int p1] : List Value).toArray s 0 0 A) (F0 m 27 ls []) := by
    intro T27 H locs ls hF hP hD hS hl
    rw [hk27] at hF
    refine lv_ldc2 (v := (-1000000000000)) hx hb hown (hts _ (List.mem_cons_of_mem _ kw607)) d_GM_output_27 ?_
    exact join30 T27 (-1000000000000) _ _ ls hF hP hD hS (lv_sub hl [0, 1] rfl)
  refine lv_if_eq (tgt := 27) hx hb d_GM_output_7 (by decide) (fun c_7 => ?_) (fun c_7 => ?_)
  · have hF := ps_of c_7 hF
    exact join27 S _ _ ls hF hP hD hS (lv_sub hl [0, 1] rfl)
  · have hF := ng_of c_7 hF
    refine lv_iload_n hx hb d_GM_output_10 rfl (lv_at hl 1 rfl) ?_
    refine lv_aload_n hx hb d_GM_output_11 rfl (lv_at hl 0 rfl) ?_
    refine va_get (D := D) (ci := 6) (v := .int (S 0 19)) (C := R_GM) (T := T_GM) (N := 30) hx hb hts (fun w h => List.mem_cons_of_mem _ (in_GM w h)) hown hK hP 0 (m_0 G S) rfl 19 (by decide) (hts _ (List.mem_cons_of_mem _ kw463)) (fun _ h9 => h9) rfl d_GM_output_12 ?_
    refine lv_icmp_ge (tgt := 27) hx hb d_GM_output_15 (by decide) (fun c_15 => ?_) (fun c_15 => ?_)
    · have hF := ps_of c_15 hF
      exact join27 S _ _ ls hF hP hD hS (lv_sub hl [0, 1] rfl)
    · have hF := ng_of c_15 hF
      refine lv_aload_n hx hb d_GM_output_18 rfl (lv_at hl 0 rfl) ?_
      refine va_get (D := D) (ci := 6) (v := .ref (mA G 13)) (C := R_GM) (T := T_GM) (N := 30) hx hb hts (fun w h => List.mem_cons_of_mem _ (in_GM w h)) hown hK hP 0 (m_0 G S) rfl 18 (by decide) (hts _ (List.mem_cons_of_mem _ kw462)) (fun _ h9 => h9) rfl d_GM_output_19 ?_
      refine lv_iload_n hx hb d_GM_output_22 rfl (lv_at hl 1 rfl) ?_
      obtain ⟨g23, hF⟩ := gd_of hF
      refine va_lald (D := D) hx hb hK hP 13 2 (m_13 G S) rfl (ix_in g23) d_GM_output_23 ?_
      refine lv_goto (tgt := 30) hx hb d_GM_output_24 (by decide) ?_
      exact join30 S ((S 13 p1.toNatClampNeg).toInt64) _ _ ls hF hP hD hS (lv_sub hl [0, 1] rfl)
set_option maxHeartbeats 4000000 in
set_option maxRecDepth 100000 in
theorem c_GM_at (l : Launch) (D : va_G) (G : MP) (S : MS) (sz : Nat) (p1 : Int32) (R : (Int32 × MS)) (hF : f_GM_at S p1 = some R) : Met l y_GM_at ws_GM_at ({ frames := 1, cells := 0, slots := 0, locals := 22 }) (va_Pc [.ref (mA G 0), .int p1] (mPre D G S sz)) (va_Qi (fun (r : Int32) (S' : MS) => (r, S') = R) (wX D G (va_A (wM G S) sz)) (va_A (wM G S) sz)) 0 0 (va_A (wM G S) sz) := by
  refine Met.ofW (cc := b_GM_at) (maxL := 2) (ret := (some .int)) (by decide) rfl ?_
  intro p e s m args below meth c s₁ B hml hv
  obtain ⟨rfl, hsz, hP, hK, hD0⟩ := hv
  have hx := B.exec
  have hb := B.bytes
  have hr := B.returns
  have hts := atoms_spec (ws := ws_GM_at) B.pre
  have hown : s.vm.findClass R_GM = some m.cls := findClass_of_methodNamed B.named
  have hlocks := B.notSynchronized
  subst hsz
  have hD := hD0.self (sz := s.heap.size)
  generalize hAe : va_A (wM G S) s.heap.size = A at hD ⊢
  have hA : ∀ q : Nat, s.heap.size ≤ q → A q := fun q h => by rw [← hAe]; exact Or.inr h
  have hS : va_S A s.heap s.heap [] := va_S.rf
  have hl := lv_entry ([.ref (mA G 0), .int p1]) (n := 2) (Nat.le_of_ble_eq_true rfl)
  rw [lg_entry_eq]
  generalize (lg_sl ([.ref (mA G 0), .int p1]) ++ List.replicate (2 - (lg_sl ([.ref (mA G 0), .int p1])).length) Slot.unset).toArray = ls at hl ⊢
  have hl : lv_has ls 2 [(0, .ref (mA G 0)), (1, .int p1)] := hl
  unfold f_GM_at at hF
  refine lv_iload_n hx hb d_GM_at_0 rfl (lv_at hl 1 rfl) ?_
  refine lv_iconst (v := 3) hx hb d_GM_at_1 (by decide) ?_
  refine lv_icmp_ne (tgt := 10) hx hb d_GM_at_2 (by decide) (fun c_2 => ?_) (fun c_2 => ?_)
  · have hF := ng_of c_2 hF
    refine lv_iload_n hx hb d_GM_at_10 rfl (lv_at hl 1 rfl) ?_
    refine lv_iconst (v := 0) hx hb d_GM_at_11 (by decide) ?_
    refine lv_iconst (v := 2) hx hb d_GM_at_12 (by decide) ?_
    refine vp_callSi (W.runS (As := [.int p1, .int 0, .int 2]) (rest := []) ⟨hx, hb, hml, hown, hts⟩ (c_GM_in l p1 0 2) (cwS 3 hts (gS kw510 kw511 kw7 kw512) rfl rfl rfl (by decide +kernel) ⟨by show (0 : Nat) + 1 ≤ 1; omega, by show 8 + (3 + 11) + 0 ≤ 22; omega⟩) ⟨blindNM, fun U hU hW => ⟨rfl, trivial⟩⟩ rfl rfl hl.1 rfl (lv_room (Nat.le_of_ble_eq_true rfl)) d_GM_at_13 ⟨Nat.zero_le _, Nat.zero_le _⟩) (fun x13 ex13 => ?_)
    obtain ⟨ex13, bx13⟩ := ex13
    have hF := lt_of hF ex13
    refine lv_if_ne (tgt := 21) hx hb d_GM_at_16 (by decide) (fun c_16 => ?_) (fun c_16 => ?_)
    · have hF := ng_of c_16 hF
      refine lv_aload_n hx hb d_GM_at_21 rfl (lv_at hl 0 rfl) ?_
      refine va_get (D := D) (ci := 6) (v := .int (S 0 20)) (C := R_GM) (T := T_GM) (N := 30) hx hb hts (fun w h => List.mem_cons_of_mem _ (in_GM w h)) hown hK hP 0 (m_0 G S) rfl 20 (by decide) (hts _ (List.mem_cons_of_mem _ kw464)) (fun _ h9 => h9) rfl d_GM_at_22 ?_
      refine lv_if_ne (tgt := 30) hx hb d_GM_at_25 (by decide) (fun c_25 => ?_) (fun c_25 => ?_)
      · have hF := ng_of c_25 hF
        refine lv_iload_n hx hb d_GM_at_30 rfl (lv_at hl 1 rfl) ?_
        obtain ⟨k67, hk67, hF⟩ := jn_of hF
        have join67 : ∀ (T1 : MS) (z67 : Int32) (H : Heap) (locs : List Loc) (ls : Array Slot), k67 T1 z67 = some R → va_P D vwCl (wM G T1) H → va_D A (wM G T1) → va_S A s.heap H locs → lv_has ls 2 [(0, .ref (mA G 0)), (1, .int p1)] → W p l e (headSpec ws_GM_at ({ frames := 1, cells := 0, slots := 0, locals := 22 })).room s m ([.ref (mA G 0), .int p1] : List Value).toArray below meth c H locs 0 0 (MQ below (va_Qi (fun (r : Int32) (S' : MS) => (r, S') = R) (wX D G A) A) ([.ref (mA G 0), .int p1] : List Value).toArray s 0 0 A) (F0 m 67 ls [.int z67]) := by
          intro T67 z67 H locs ls hF hP hD hS hl
          rw [hk67] at hF
          exact W.iret (v := z67) hx hb hr (fun t ht hW => ⟨⟨z67, T67, rfl, Option.some.inj hF, by rw [ht]; exact hP, hD⟩, hS.F ht⟩) hS.2.2 d_GM_at_67
        refine lv_if_ne (tgt := 46) hx hb d_GM_at_31 (by decide) (fun c_31 => ?_) (fun c_31 => ?_)
        · have hF := ng_of c_31 hF
          refine lv_iload_n hx hb d_GM_at_46 rfl (lv_at hl 1 rfl) ?_
          refine lv_iconst (v := 1) hx hb d_GM_at_47 (by decide) ?_
          refine lv_icmp_ne (tgt := 63) hx hb d_GM_at_48 (by decide) (fun c_48 => ?_) (fun c_48 => ?_)
          · have hF := ng_of c_48 hF
            refine lv_aload_n hx hb d_GM_at_63 rfl (lv_at hl 0 rfl) ?_
            refine va_get (D := D) (ci := 6) (v := .int (S 0 23)) (C := R_GM) (T := T_GM) (N := 30) hx hb hts (fun w h => List.mem_cons_of_mem _ (in_GM w h)) hown hK hP 0 (m_0 G S) rfl 23 (by decide) (hts _ (List.mem_cons_of_mem _ kw467)) (fun _ h9 => h9) rfl d_GM_at_64 ?_
            exact join67 S (S 0 23) _ _ ls hF hP hD hS (lv_sub hl [0, 1] rfl)
          · have hF := ps_of c_48 hF
            refine lv_aload_n hx hb d_GM_at_51 rfl (lv_at hl 0 rfl) ?_
            refine va_get (D := D) (ci := 6) (v := .ref (mA G 8)) (C := R_GM) (T := T_GM) (N := 30) hx hb hts (fun w h => List.mem_cons_of_mem _ (in_GM w h)) hown hK hP 0 (m_0 G S) rfl 13 (by decide) (hts _ (List.mem_cons_of_mem _ kw457)) (fun _ h9 => h9) rfl d_GM_at_52 ?_
            refine lv_aload_n hx hb d_GM_at_55 rfl (lv_at hl 0 rfl) ?_
            refine va_get (D := D) (ci := 6) (v := .int (S 0 21)) (C := R_GM) (T := T_GM) (N := 30) hx hb hts (fun w h => List.mem_cons_of_mem _ (in_GM w h)) hown hK hP 0 (m_0 G S) rfl 21 (by decide) (hts _ (List.mem_cons_of_mem _ kw465)) (fun _ h9 => h9) rfl d_GM_at_56 ?_
            obtain ⟨g59, hF⟩ := gd_of hF
            refine va_iald (D := D) hx hb hK hP 8 0 (m_8 G S) rfl (ix_in g59) d_GM_at_59 ?_
            refine lv_topi (fun x59 ex59 => ?_)
            have hF := lt_of hF ex59
            refine lv_goto (tgt := 67) hx hb d_GM_at_60 (by decide) ?_
            exact join67 S x59 _ _ ls hF hP hD hS (lv_sub hl [0, 1] rfl)
        · have hF := ps_of c_31 hF
          refine lv_aload_n hx hb d_GM_at_34 rfl (lv_at hl 0 rfl) ?_
          refine va_get (D := D) (ci := 6) (v := .ref (mA G 9)) (C := R_GM) (T := T_GM) (N := 30) hx hb hts (fun w h => List.mem_cons_of_mem _ (in_GM w h)) hown hK hP 0 (m_0 G S) rfl 14 (by decide) (hts _ (List.mem_cons_of_mem _ kw458)) (fun _ h9 => h9) rfl d_GM_at_35 ?_
          refine lv_aload_n hx hb d_GM_at_38 rfl (lv_at hl 0 rfl) ?_
          refine va_get (D := D) (ci := 6) (v := .int (S 0 21)) (C := R_GM) (T := T_GM) (N := 30) hx hb hts (fun w h => List.mem_cons_of_mem _ (in_GM w h)) hown hK hP 0 (m_0 G S) rfl 21 (by decide) (hts _ (List.mem_cons_of_mem _ kw465)) (fun _ h9 => h9) rfl d_GM_at_39 ?_
          obtain ⟨g42, hF⟩ := gd_of hF
          refine va_iald (D := D) hx hb hK hP 9 0 (m_9 G S) rfl (ix_in g42) d_GM_at_42 ?_
          refine lv_topi (fun x42 ex42 => ?_)
          have hF := lt_of hF ex42
          refine lv_goto (tgt := 67) hx hb d_GM_at_43 (by decide) ?_
          exact join67 S x42 _ _ ls hF hP hD hS (lv_sub hl [0, 1] rfl)
      · have hF := ps_of c_25 hF
        refine lv_iconst (v := 0) hx hb d_GM_at_28 (by decide) ?_
        exact W.iret (v := 0) hx hb hr (fun t ht hW => ⟨⟨0, S, rfl, Option.some.inj hF, by rw [ht]; exact hP, hD⟩, hS.F ht⟩) hS.2.2 d_GM_at_29
    · have hF := ps_of c_16 hF
      refine lv_iconst (v := (-1)) hx hb d_GM_at_19 (by decide) ?_
      exact W.iret (v := (-1)) hx hb hr (fun t ht hW => ⟨⟨(-1), S, rfl, Option.some.inj hF, by rw [ht]; exact hP, hD⟩, hS.F ht⟩) hS.2.2 d_GM_at_20
  · have hF := ps_of c_2 hF
    refine lv_aload_n hx hb d_GM_at_5 rfl (lv_at hl 0 rfl) ?_
    refine va_get (D := D) (ci := 6) (v := .int (S 0 19)) (C := R_GM) (T := T_GM) (N := 30) hx hb hts (fun w h => List.mem_cons_of_mem _ (in_GM w h)) hown hK hP 0 (m_0 G S) rfl 19 (by decide) (hts _ (List.mem_cons_of_mem _ kw463)) (fun _ h9 => h9) rfl d_GM_at_6 ?_
    exact W.iret (v := (S 0 19)) hx hb hr (fun t ht hW => ⟨⟨S 0 19, S, rfl, Option.some.inj hF, by rw [ht]; exact hP, hD⟩, hS.F ht⟩) hS.2.2 d_GM_at_9
set_option maxHeartbeats 4000000 in
set_option maxRecDepth 100000 in
theorem c_GM_operate (l : Launch) (D : va_G) (G : MP) (S : MS) (sz : Nat) (p1 : Int32) (p2 : Int32) (p3 : Int32) (R : (Int64 × MS)) (hF : f_GM_operate S p1 p2 p3 = some R) : Met l y_GM_operate ws_GM_operate ({ frames := 1, cells := 0, slots := 0, locals := 22 }) (va_Pc [.ref (mA G 0), .int p1, .int p2, .int p3] (mPre D G S sz)) (va_Ql (fun (r : Int64) (S' : MS) => (r, S') = R) (wX D G (va_A (wM G S) sz)) (va_A (wM G S) sz)) 0 0 (va_A (wM G S) sz) := by
  refine Met.ofW (cc := b_GM_operate) (maxL := 5) (ret := (some .long)) (by decide) rfl ?_
  intro p e s m args below meth c s₁ B hml hv
  obtain ⟨rfl, hsz, hP, hK, hD0⟩ := hv
  have hx := B.exec
  have hb := B.bytes
  have hr := B.returns
  have hts := atoms_spec (ws := ws_GM_operate) B.pre
  have hown : s.vm.findClass R_GM = some m.cls := findClass_of_methodNamed B.named
  have hlocks := B.notSynchronized
  subst hsz
  have hD := hD0.self (sz := s.heap.size)
  generalize hAe : va_A (wM G S) s.heap.size = A at hD ⊢
  have hA : ∀ q : Nat, s.heap.size ≤ q → A q := fun q h => by rw [← hAe]; exact Or.inr h
  have hS : va_S A s.heap s.heap [] := va_S.rf
  have hl := lv_entry ([.ref (mA G 0), .int p1, .int p2, .int p3]) (n := 5) (Nat.le_of_ble_eq_true rfl)
  rw [lg_entry_eq]
  generalize (lg_sl ([.ref (mA G 0), .int p1, .int p2, .int p3]) ++ List.replicate (5 - (lg_sl ([.ref (mA G 0), .int p1, .int p2, .int p3])).length) Slot.unset).toArray = ls at hl ⊢
  have hl : lv_has ls 5 [(0, .ref (mA G 0)), (1, .int p1), (2, .int p2), (3, .int p3)] := hl
  unfold f_GM_operate at hF
  refine lv_iload_n hx hb d_GM_operate_0 rfl (lv_at hl 1 rfl) ?_
  refine lv_iconst (v := 0) hx hb d_GM_operate_1 (by decide) ?_
  refine lv_iconst (v := 5) hx hb d_GM_operate_2 (by decide) ?_
  refine vp_callSi (W.runS (As := [.int p1, .int 0, .int 5]) (rest := []) ⟨hx, hb, hml, hown, hts⟩ (c_GM_in l p1 0 5) (cwS 3 hts (gS kw510 kw511 kw7 kw512) rfl rfl rfl (by decide +kernel) ⟨by show (0 : Nat) + 1 ≤ 1; omega, by show 8 + (3 + 11) + 0 ≤ 22; omega⟩) ⟨blindNM, fun U hU hW => ⟨rfl, trivial⟩⟩ rfl rfl hl.1 rfl (lv_room (Nat.le_of_ble_eq_true rfl)) d_GM_operate_3 ⟨Nat.zero_le _, Nat.zero_le _⟩) (fun x3 ex3 => ?_)
  obtain ⟨ex3, bx3⟩ := ex3
  have hF := lt_of hF ex3
  refine lv_if_ne (tgt := 13) hx hb d_GM_operate_6 (by decide) (fun c_6 => ?_) (fun c_6 => ?_)
  · have hF := ng_of c_6 hF
    refine lv_iload_n hx hb d_GM_operate_13 rfl (lv_at hl 1 rfl) ?_
    obtain ⟨k64, hk64, hF⟩ := jn_of hF
    have join64 : ∀ (T1 : MS) (z64 : Int32) (H : Heap) (locs : List Loc) (ls : Array Slot), k64 T1 z64 = some R → va_P D vwCl (wM G T1) H → va_D A (wM G T1) → va_S A s.heap H locs → lv_has ls 5 [(0, .ref (mA G 0)), (1, .int p1), (2, .int p2), (3, .int p3)] → W p l e (headSpec ws_GM_operate ({ frames := 1, cells := 0, slots := 0, locals := 22 })).room s m ([.ref (mA G 0), .int p1, .int p2, .int p3] : List Value).toArray below meth c H locs 0 0 (MQ below (va_Ql (fun (r : Int64) (S' : MS) => (r, S') = R) (wX D G A) A) ([.ref (mA G 0), .int p1, .int p2, .int p3] : List Value).toArray s 0 0 A) (F0 m 64 ls [.int z64]) := by
      intro T64 z64 H locs ls hF hP hD hS hl
      rw [hk64] at hF
      refine lv_istore (lv' := [(4, .int z64), (0, .ref (mA G 0)), (1, .int p1), (2, .int p2), (3, .int p3)]) hx hb d_GM_operate_64 hl (by decide) rfl (fun ls hl => ?_)
      refine lv_iload hx hb d_GM_operate_66 (lv_at hl 0 rfl) ?_
      refine lv_iload_n hx hb d_GM_operate_68 rfl (lv_at hl 3 rfl) ?_
      refine lv_iload_n hx hb d_GM_operate_69 rfl (lv_at hl 4 rfl) ?_
      refine vp_callSi (W.runS (As := [.int z64, .int p2, .int p3]) (rest := []) ⟨hx, hb, hml, hown, hts⟩ (c_GM_apply l z64 p2 p3) (cwS 3 hts (gS kw592 kw593 kw7 kw594) rfl rfl rfl (by decide +kernel) ⟨by show (0 : Nat) + 1 ≤ 1; omega, by show 8 + (3 + 11) + 0 ≤ 22; omega⟩) ⟨blindNM, fun U hU hW => ⟨rfl, trivial⟩⟩ rfl rfl hl.1 rfl (lv_room (Nat.le_of_ble_eq_true rfl)) d_GM_operate_70 ⟨Nat.zero_le _, Nat.zero_le _⟩) (fun x70 ex70 => ?_)
      have hF := lt_of hF ex70
      refine lv_i2l (v := x70.toInt64) hx hb d_GM_operate_73 rfl ?_
      exact W.lret (v := x70.toInt64) hx hb hr (fun t ht hW => ⟨⟨x70.toInt64, T64, rfl, Option.some.inj hF, by rw [ht]; exact hP, hD⟩, hS.F ht⟩) hS.2.2 d_GM_operate_74
    refine lv_if_ne (tgt := 22) hx hb d_GM_operate_14 (by decide) (fun c_14 => ?_) (fun c_14 => ?_)
    · have hF := ng_of c_14 hF
      refine lv_iload_n hx hb d_GM_operate_22 rfl (lv_at hl 1 rfl) ?_
      refine lv_iconst (v := 1) hx hb d_GM_operate_23 (by decide) ?_
      refine lv_icmp_ne (tgt := 32) hx hb d_GM_operate_24 (by decide) (fun c_24 => ?_) (fun c_24 => ?_)
      · have hF := ng_of c_24 hF
        refine lv_iload_n hx hb d_GM_operate_32 rfl (lv_at hl 1 rfl) ?_
        refine lv_iconst (v := 2) hx hb d_GM_operate_33 (by decide) ?_
        refine lv_icmp_ne (tgt := 42) hx hb d_GM_operate_34 (by decide) (fun c_34 => ?_) (fun c_34 => ?_)
        · have hF := ng_of c_34 hF
          refine lv_iload_n hx hb d_GM_operate_42 rfl (lv_at hl 1 rfl) ?_
          refine lv_iconst (v := 3) hx hb d_GM_operate_43 (by decide) ?_
          refine lv_icmp_ne (tgt := 52) hx hb d_GM_operate_44 (by decide) (fun c_44 => ?_) (fun c_44 => ?_)
          · have hF := ng_of c_44 hF
            refine lv_iload_n hx hb d_GM_operate_52 rfl (lv_at hl 1 rfl) ?_
            refine lv_iconst (v := 4) hx hb d_GM_operate_53 (by decide) ?_
            refine lv_icmp_ne (tgt := 62) hx hb d_GM_operate_54 (by decide) (fun c_54 => ?_) (fun c_54 => ?_)
            · have hF := ng_of c_54 hF
              refine lv_bipush (v := 60) hx hb d_GM_operate_62 (by decide) ?_
              exact join64 S 60 _ _ ls hF hP hD hS (lv_sub hl [0, 1, 2, 3] rfl)
            · have hF := ps_of c_54 hF
              refine lv_bipush (v := 94) hx hb d_GM_operate_57 (by decide) ?_
              refine lv_goto (tgt := 64) hx hb d_GM_operate_59 (by decide) ?_
              exact join64 S 94 _ _ ls hF hP hD hS (lv_sub hl [0, 1, 2, 3] rfl)
          · have hF := ps_of c_44 hF
            refine lv_bipush (v := 124) hx hb d_GM_operate_47 (by decide) ?_
            refine lv_goto (tgt := 64) hx hb d_GM_operate_49 (by decide) ?_
            exact join64 S 124 _ _ ls hF hP hD hS (lv_sub hl [0, 1, 2, 3] rfl)
        · have hF := ps_of c_34 hF
          refine lv_bipush (v := 38) hx hb d_GM_operate_37 (by decide) ?_
          refine lv_goto (tgt := 64) hx hb d_GM_operate_39 (by decide) ?_
          exact join64 S 38 _ _ ls hF hP hD hS (lv_sub hl [0, 1, 2, 3] rfl)
      · have hF := ps_of c_24 hF
        refine lv_bipush (v := 45) hx hb d_GM_operate_27 (by decide) ?_
        refine lv_goto (tgt := 64) hx hb d_GM_operate_29 (by decide) ?_
        exact join64 S 45 _ _ ls hF hP hD hS (lv_sub hl [0, 1, 2, 3] rfl)
    · have hF := ps_of c_14 hF
      refine lv_bipush (v := 43) hx hb d_GM_operate_17 (by decide) ?_
      refine lv_goto (tgt := 64) hx hb d_GM_operate_19 (by decide) ?_
      exact join64 S 43 _ _ ls hF hP hD hS (lv_sub hl [0, 1, 2, 3] rfl)
  · have hF := ps_of c_6 hF
    refine lv_ldc2 (v := (-1000000000000)) hx hb hown (hts _ (List.mem_cons_of_mem _ kw607)) d_GM_operate_9 ?_
    exact W.lret (v := (-1000000000000)) hx hb hr (fun t ht hW => ⟨⟨(-1000000000000), S, rfl, Option.some.inj hF, by rw [ht]; exact hP, hD⟩, hS.F ht⟩) hS.2.2 d_GM_operate_12
set_option maxHeartbeats 4000000 in
set_option maxRecDepth 100000 in
theorem c_GM_state (l : Launch) (D : va_G) (G : MP) (S : MS) (sz : Nat) (p1 : Int32) (p2 : Int32) (R : (Int32 × MS)) (hF : f_GM_state S p1 p2 = some R) : Met l y_GM_state ws_GM_state ({ frames := 1, cells := 0, slots := 0, locals := 22 }) (va_Pc [.ref (mA G 0), .int p1, .int p2] (mPre D G S sz)) (va_Qi (fun (r : Int32) (S' : MS) => (r, S') = R) (wX D G (va_A (wM G S) sz)) (va_A (wM G S) sz)) 0 0 (va_A (wM G S) sz) := by
  refine Met.ofW (cc := b_GM_state) (maxL := 3) (ret := (some .int)) (by decide) rfl ?_
  intro p e s m args below meth c s₁ B hml hv
  obtain ⟨rfl, hsz, hP, hK, hD0⟩ := hv
  have hx := B.exec
  have hb := B.bytes
  have hr := B.returns
  have hts := atoms_spec (ws := ws_GM_state) B.pre
  have hown : s.vm.findClass R_GM = some m.cls := findClass_of_methodNamed B.named
  have hlocks := B.notSynchronized
  subst hsz
  have hD := hD0.self (sz := s.heap.size)
  generalize hAe : va_A (wM G S) s.heap.size = A at hD ⊢
  have hA : ∀ q : Nat, s.heap.size ≤ q → A q := fun q h => by rw [← hAe]; exact Or.inr h
  have hS : va_S A s.heap s.heap [] := va_S.rf
  have hl := lv_entry ([.ref (mA G 0), .int p1, .int p2]) (n := 3) (Nat.le_of_ble_eq_true rfl)
  rw [lg_entry_eq]
  generalize (lg_sl ([.ref (mA G 0), .int p1, .int p2]) ++ List.replicate (3 - (lg_sl ([.ref (mA G 0), .int p1, .int p2])).length) Slot.unset).toArray = ls at hl ⊢
  have hl : lv_has ls 3 [(0, .ref (mA G 0)), (1, .int p1), (2, .int p2)] := hl
  unfold f_GM_state at hF
  refine lv_iload_n hx hb d_GM_state_0 rfl (lv_at hl 1 rfl) ?_
  refine lv_iconst (v := 0) hx hb d_GM_state_1 (by decide) ?_
  refine lv_iconst (v := 2) hx hb d_GM_state_2 (by decide) ?_
  refine vp_callSi (W.runS (As := [.int p1, .int 0, .int 2]) (rest := []) ⟨hx, hb, hml, hown, hts⟩ (c_GM_in l p1 0 2) (cwS 3 hts (gS kw510 kw511 kw7 kw512) rfl rfl rfl (by decide +kernel) ⟨by show (0 : Nat) + 1 ≤ 1; omega, by show 8 + (3 + 11) + 0 ≤ 22; omega⟩) ⟨blindNM, fun U hU hW => ⟨rfl, trivial⟩⟩ rfl rfl hl.1 rfl (lv_room (Nat.le_of_ble_eq_true rfl)) d_GM_state_3 ⟨Nat.zero_le _, Nat.zero_le _⟩) (fun x3 ex3 => ?_)
  obtain ⟨ex3, bx3⟩ := ex3
  have hF := lt_of hF ex3
  obtain ⟨k18, hk18, hF⟩ := jn_of hF
  have join18 : ∀ (T1 : MS) (H : Heap) (locs : List Loc) (ls : Array Slot), k18 T1 = some R → va_P D vwCl (wM G T1) H → va_D A (wM G T1) → va_S A s.heap H locs → lv_has ls 3 [(0, .ref (mA G 0)), (1, .int p1), (2, .int p2)] → W p l e (headSpec ws_GM_state ({ frames := 1, cells := 0, slots := 0, locals := 22 })).room s m ([.ref (mA G 0), .int p1, .int p2] : List Value).toArray below meth c H locs 0 0 (MQ below (va_Qi (fun (r : Int32) (S' : MS) => (r, S') = R) (wX D G A) A) ([.ref (mA G 0), .int p1, .int p2] : List Value).toArray s 0 0 A) (F0 m 18 ls []) := by
    intro T18 H locs ls hF hP hD hS hl
    rw [hk18] at hF
    refine lv_iconst (v := (-1)) hx hb d_GM_state_18 (by decide) ?_
    exact W.iret (v := (-1)) hx hb hr (fun t ht hW => ⟨⟨(-1), T18, rfl, Option.some.inj hF, by rw [ht]; exact hP, hD⟩, hS.F ht⟩) hS.2.2 d_GM_state_19
  refine lv_if_eq (tgt := 18) hx hb d_GM_state_6 (by decide) (fun c_6 => ?_) (fun c_6 => ?_)
  · have hF := ps_of c_6 hF
    exact join18 S _ _ ls hF hP hD hS (lv_sub hl [0, 1, 2] rfl)
  · have hF := ng_of c_6 hF
    refine lv_iload_n hx hb d_GM_state_9 rfl (lv_at hl 2 rfl) ?_
    refine lv_iconst (v := 0) hx hb d_GM_state_10 (by decide) ?_
    refine lv_iconst (v := 2) hx hb d_GM_state_11 (by decide) ?_
    refine vp_callSi (W.runS (As := [.int p2, .int 0, .int 2]) (rest := []) ⟨hx, hb, hml, hown, hts⟩ (c_GM_in l p2 0 2) (cwS 3 hts (gS kw510 kw511 kw7 kw512) rfl rfl rfl (by decide +kernel) ⟨by show (0 : Nat) + 1 ≤ 1; omega, by show 8 + (3 + 11) + 0 ≤ 22; omega⟩) ⟨blindNM, fun U hU hW => ⟨rfl, trivial⟩⟩ rfl rfl hl.1 rfl (lv_room (Nat.le_of_ble_eq_true rfl)) d_GM_state_12 ⟨Nat.zero_le _, Nat.zero_le _⟩) (fun x12 ex12 => ?_)
    obtain ⟨ex12, bx12⟩ := ex12
    have hF := lt_of hF ex12
    refine lv_if_ne (tgt := 20) hx hb d_GM_state_15 (by decide) (fun c_15 => ?_) (fun c_15 => ?_)
    · have hF := ng_of c_15 hF
      refine lv_iload_n hx hb d_GM_state_20 rfl (lv_at hl 2 rfl) ?_
      obtain ⟨k67, hk67, hF⟩ := jn_of hF
      have join67 : ∀ (T1 : MS) (z67 : Int32) (H : Heap) (locs : List Loc) (ls : Array Slot), k67 T1 z67 = some R → va_P D vwCl (wM G T1) H → va_D A (wM G T1) → va_S A s.heap H locs → lv_has ls 3 [(0, .ref (mA G 0)), (1, .int p1), (2, .int p2)] → W p l e (headSpec ws_GM_state ({ frames := 1, cells := 0, slots := 0, locals := 22 })).room s m ([.ref (mA G 0), .int p1, .int p2] : List Value).toArray below meth c H locs 0 0 (MQ below (va_Qi (fun (r : Int32) (S' : MS) => (r, S') = R) (wX D G A) A) ([.ref (mA G 0), .int p1, .int p2] : List Value).toArray s 0 0 A) (F0 m 67 ls [.int z67]) := by
        intro T67 z67 H locs ls hF hP hD hS hl
        rw [hk67] at hF
        exact W.iret (v := z67) hx hb hr (fun t ht hW => ⟨⟨z67, T67, rfl, Option.some.inj hF, by rw [ht]; exact hP, hD⟩, hS.F ht⟩) hS.2.2 d_GM_state_67
      refine lv_if_ne (tgt := 33) hx hb d_GM_state_21 (by decide) (fun c_21 => ?_) (fun c_21 => ?_)
      · have hF := ng_of c_21 hF
        refine lv_iload_n hx hb d_GM_state_33 rfl (lv_at hl 2 rfl) ?_
        refine lv_iconst (v := 1) hx hb d_GM_state_34 (by decide) ?_
        refine lv_icmp_ne (tgt := 55) hx hb d_GM_state_35 (by decide) (fun c_35 => ?_) (fun c_35 => ?_)
        · have hF := ng_of c_35 hF
          refine lv_aload_n hx hb d_GM_state_55 rfl (lv_at hl 0 rfl) ?_
          refine va_get (D := D) (ci := 6) (v := .int (S 0 3)) (C := R_GM) (T := T_GM) (N := 30) hx hb hts (fun w h => List.mem_cons_of_mem _ (in_GM w h)) hown hK hP 0 (m_0 G S) rfl 3 (by decide) (hts _ (List.mem_cons_of_mem _ kw447)) (fun _ h9 => h9) rfl d_GM_state_56 ?_
          refine lv_if_eq (tgt := 66) hx hb d_GM_state_59 (by decide) (fun c_59 => ?_) (fun c_59 => ?_)
          · have hF := ps_of c_59 hF
            refine lv_iconst (v := 0) hx hb d_GM_state_66 (by decide) ?_
            exact join67 S 0 _ _ ls hF hP hD hS (lv_sub hl [0, 1, 2] rfl)
          · have hF := ng_of c_59 hF
            refine lv_iconst (v := 1) hx hb d_GM_state_62 (by decide) ?_
            refine lv_goto (tgt := 67) hx hb d_GM_state_63 (by decide) ?_
            exact join67 S 1 _ _ ls hF hP hD hS (lv_sub hl [0, 1, 2] rfl)
        · have hF := ps_of c_35 hF
          refine lv_aload_n hx hb d_GM_state_38 rfl (lv_at hl 0 rfl) ?_
          refine va_get (D := D) (ci := 6) (v := .ref (mA G 3)) (C := R_GM) (T := T_GM) (N := 30) hx hb hts (fun w h => List.mem_cons_of_mem _ (in_GM w h)) hown hK hP 0 (m_0 G S) rfl 2 (by decide) (hts _ (List.mem_cons_of_mem _ kw446)) (fun _ h9 => h9) rfl d_GM_state_39 ?_
          refine lv_iload_n hx hb d_GM_state_42 rfl (lv_at hl 1 rfl) ?_
          obtain ⟨g43, hF⟩ := gd_of hF
          refine va_zald (D := D) hx hb hK hP 3 1 (m_3 G S) rfl (ix_in g43) d_GM_state_43 ?_
          refine lv_topi (fun x43 ex43 => ?_)
          have hF := lt_of hF ex43
          refine lv_if_eq (tgt := 51) hx hb d_GM_state_44 (by decide) (fun c_44 => ?_) (fun c_44 => ?_)
          · have hF := ps_of c_44 hF
            refine lv_iconst (v := 0) hx hb d_GM_state_51 (by decide) ?_
            refine lv_goto (tgt := 67) hx hb d_GM_state_52 (by decide) ?_
            exact join67 S 0 _ _ ls hF hP hD hS (lv_sub hl [0, 1, 2] rfl)
          · have hF := ng_of c_44 hF
            refine lv_iconst (v := 1) hx hb d_GM_state_47 (by decide) ?_
            refine lv_goto (tgt := 67) hx hb d_GM_state_48 (by decide) ?_
            exact join67 S 1 _ _ ls hF hP hD hS (lv_sub hl [0, 1, 2] rfl)
      · have hF := ps_of c_21 hF
        refine lv_aload_n hx hb d_GM_state_24 rfl (lv_at hl 0 rfl) ?_
        refine va_get (D := D) (ci := 6) (v := .ref (mA G 2)) (C := R_GM) (T := T_GM) (N := 30) hx hb hts (fun w h => List.mem_cons_of_mem _ (in_GM w h)) hown hK hP 0 (m_0 G S) rfl 1 (by decide) (hts _ (List.mem_cons_of_mem _ kw445)) (fun _ h9 => h9) rfl d_GM_state_25 ?_
        refine lv_iload_n hx hb d_GM_state_28 rfl (lv_at hl 1 rfl) ?_
        obtain ⟨g29, hF⟩ := gd_of hF
        refine va_iald (D := D) hx hb hK hP 2 0 (m_2 G S) rfl (ix_in g29) d_GM_state_29 ?_
        refine lv_topi (fun x29 ex29 => ?_)
        have hF := lt_of hF ex29
        refine lv_goto (tgt := 67) hx hb d_GM_state_30 (by decide) ?_
        exact join67 S x29 _ _ ls hF hP hD hS (lv_sub hl [0, 1, 2] rfl)
    · have hF := ps_of c_15 hF
      exact join18 S _ _ ls hF hP hD hS (lv_sub hl [0, 1, 2] rfl)
