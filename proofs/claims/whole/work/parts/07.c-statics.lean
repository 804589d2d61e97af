set_option maxHeartbeats 4000000 in
set_option maxRecDepth 100000 in
theorem c_GS_isModule (l : Launch) (p0 : Int32) : Met l y_GS_isModule ws_GS_isModule ({ frames := 0, cells := 0, slots := 0, locals := 0 }) (va_Pc [.int p0] NW) (vp_Si (fun r => r = f_GS_isModule p0 ∧ bl r)) 0 0 (fun _ => False) := by
  refine Met.ofW (cc := b_GS_isModule) (maxL := 1) (ret := (some .boolean)) (by decide) rfl ?_
  intro p e s m args below meth c s₁ B hml hv
  obtain ⟨rfl, hN⟩ := hv
  have hx := B.exec
  have hb := B.bytes
  have hr := B.returns
  have hts := atoms_spec (ws := ws_GS_isModule) B.pre
  have hown : s.vm.findClass R_GS = some m.cls := findClass_of_methodNamed B.named
  have hlocks := B.notSynchronized
  have hl := lv_entry ([.int p0]) (n := 1) (Nat.le_of_ble_eq_true rfl)
  rw [lg_entry_eq]
  generalize (lg_sl ([.int p0]) ++ List.replicate (1 - (lg_sl ([.int p0])).length) Slot.unset).toArray = ls at hl ⊢
  have hl : lv_has ls 1 [(0, .int p0)] := hl
  refine lv_iload_n hx hb d_GS_isModule_0 rfl (lv_at hl 0 rfl) ?_
  refine lv_if_lt (tgt := 13) hx hb d_GS_isModule_1 (by decide) (fun c_1 => ?_) (fun c_1 => ?_)
  · refine lv_iconst (v := 0) hx hb d_GS_isModule_13 (by decide) ?_
    exact W.zret (v := 0) hx hb hr (bl_nar (Or.inl rfl)) (fun t ht hW => ⟨0, rfl, ⟨by simp only [f_GS_isModule, if_pos c_1], (Or.inl rfl)⟩, ht⟩) (fun q h => absurd h List.not_mem_nil) d_GS_isModule_14
  · refine lv_iload_n hx hb d_GS_isModule_4 rfl (lv_at hl 0 rfl) ?_
    refine lv_iconst (v := 3) hx hb d_GS_isModule_5 (by decide) ?_
    refine lv_icmp_ge (tgt := 13) hx hb d_GS_isModule_6 (by decide) (fun c_6 => ?_) (fun c_6 => ?_)
    · refine lv_iconst (v := 0) hx hb d_GS_isModule_13 (by decide) ?_
      exact W.zret (v := 0) hx hb hr (bl_nar (Or.inl rfl)) (fun t ht hW => ⟨0, rfl, ⟨by simp only [f_GS_isModule, if_neg c_1, if_pos c_6], (Or.inl rfl)⟩, ht⟩) (fun q h => absurd h List.not_mem_nil) d_GS_isModule_14
    · refine lv_iconst (v := 1) hx hb d_GS_isModule_9 (by decide) ?_
      refine lv_goto (tgt := 14) hx hb d_GS_isModule_10 (by decide) ?_
      exact W.zret (v := 1) hx hb hr (bl_nar (Or.inr rfl)) (fun t ht hW => ⟨1, rfl, ⟨by simp only [f_GS_isModule, if_neg c_1, if_neg c_6], (Or.inr rfl)⟩, ht⟩) (fun q h => absurd h List.not_mem_nil) d_GS_isModule_14
set_option maxHeartbeats 4000000 in
set_option maxRecDepth 100000 in
theorem c_GS_isLetter (l : Launch) (p0 : Int32) : Met l y_GS_isLetter ws_GS_isLetter ({ frames := 0, cells := 0, slots := 0, locals := 0 }) (va_Pc [.int p0] NW) (vp_Si (fun r => r = f_GS_isLetter p0 ∧ bl r)) 0 0 (fun _ => False) := by
  refine Met.ofW (cc := b_GS_isLetter) (maxL := 1) (ret := (some .boolean)) (by decide) rfl ?_
  intro p e s m args below meth c s₁ B hml hv
  obtain ⟨rfl, hN⟩ := hv
  have hx := B.exec
  have hb := B.bytes
  have hr := B.returns
  have hts := atoms_spec (ws := ws_GS_isLetter) B.pre
  have hown : s.vm.findClass R_GS = some m.cls := findClass_of_methodNamed B.named
  have hlocks := B.notSynchronized
  have hl := lv_entry ([.int p0]) (n := 1) (Nat.le_of_ble_eq_true rfl)
  rw [lg_entry_eq]
  generalize (lg_sl ([.int p0]) ++ List.replicate (1 - (lg_sl ([.int p0])).length) Slot.unset).toArray = ls at hl ⊢
  have hl : lv_has ls 1 [(0, .int p0)] := hl
  refine lv_iload_n hx hb d_GS_isLetter_0 rfl (lv_at hl 0 rfl) ?_
  refine lv_bipush (v := 65) hx hb d_GS_isLetter_1 (by decide) ?_
  refine lv_icmp_lt (tgt := 16) hx hb d_GS_isLetter_3 (by decide) (fun c_3 => ?_) (fun c_3 => ?_)
  · refine lv_iconst (v := 0) hx hb d_GS_isLetter_16 (by decide) ?_
    exact W.zret (v := 0) hx hb hr (bl_nar (Or.inl rfl)) (fun t ht hW => ⟨0, rfl, ⟨by simp only [f_GS_isLetter, if_pos c_3], (Or.inl rfl)⟩, ht⟩) (fun q h => absurd h List.not_mem_nil) d_GS_isLetter_17
  · refine lv_iload_n hx hb d_GS_isLetter_6 rfl (lv_at hl 0 rfl) ?_
    refine lv_bipush (v := 90) hx hb d_GS_isLetter_7 (by decide) ?_
    refine lv_icmp_gt (tgt := 16) hx hb d_GS_isLetter_9 (by decide) (fun c_9 => ?_) (fun c_9 => ?_)
    · refine lv_iconst (v := 0) hx hb d_GS_isLetter_16 (by decide) ?_
      exact W.zret (v := 0) hx hb hr (bl_nar (Or.inl rfl)) (fun t ht hW => ⟨0, rfl, ⟨by simp only [f_GS_isLetter, if_neg c_3, if_pos c_9], (Or.inl rfl)⟩, ht⟩) (fun q h => absurd h List.not_mem_nil) d_GS_isLetter_17
    · refine lv_iconst (v := 1) hx hb d_GS_isLetter_12 (by decide) ?_
      refine lv_goto (tgt := 17) hx hb d_GS_isLetter_13 (by decide) ?_
      exact W.zret (v := 1) hx hb hr (bl_nar (Or.inr rfl)) (fun t ht hW => ⟨1, rfl, ⟨by simp only [f_GS_isLetter, if_neg c_3, if_neg c_9], (Or.inr rfl)⟩, ht⟩) (fun q h => absurd h List.not_mem_nil) d_GS_isLetter_17
set_option maxHeartbeats 4000000 in
set_option maxRecDepth 100000 in
theorem c_GS_isLetterNumber (l : Launch) (p0 : Int32) : Met l y_GS_isLetterNumber ws_GS_isLetterNumber ({ frames := 0, cells := 0, slots := 0, locals := 0 }) (va_Pc [.int p0] NW) (vp_Si (fun r => r = f_GS_isLetterNumber p0 ∧ bl r)) 0 0 (fun _ => False) := by
  refine Met.ofW (cc := b_GS_isLetterNumber) (maxL := 1) (ret := (some .boolean)) (by decide) rfl ?_
  intro p e s m args below meth c s₁ B hml hv
  obtain ⟨rfl, hN⟩ := hv
  have hx := B.exec
  have hb := B.bytes
  have hr := B.returns
  have hts := atoms_spec (ws := ws_GS_isLetterNumber) B.pre
  have hown : s.vm.findClass R_GS = some m.cls := findClass_of_methodNamed B.named
  have hlocks := B.notSynchronized
  have hl := lv_entry ([.int p0]) (n := 1) (Nat.le_of_ble_eq_true rfl)
  rw [lg_entry_eq]
  generalize (lg_sl ([.int p0]) ++ List.replicate (1 - (lg_sl ([.int p0])).length) Slot.unset).toArray = ls at hl ⊢
  have hl : lv_has ls 1 [(0, .int p0)] := hl
  refine lv_iload_n hx hb d_GS_isLetterNumber_0 rfl (lv_at hl 0 rfl) ?_
  refine lv_if_lt (tgt := 14) hx hb d_GS_isLetterNumber_1 (by decide) (fun c_1 => ?_) (fun c_1 => ?_)
  · refine lv_iconst (v := 0) hx hb d_GS_isLetterNumber_14 (by decide) ?_
    exact W.zret (v := 0) hx hb hr (bl_nar (Or.inl rfl)) (fun t ht hW => ⟨0, rfl, ⟨by simp only [f_GS_isLetterNumber, if_pos c_1], (Or.inl rfl)⟩, ht⟩) (fun q h => absurd h List.not_mem_nil) d_GS_isLetterNumber_15
  · refine lv_iload_n hx hb d_GS_isLetterNumber_4 rfl (lv_at hl 0 rfl) ?_
    refine lv_bipush (v := 26) hx hb d_GS_isLetterNumber_5 (by decide) ?_
    refine lv_icmp_ge (tgt := 14) hx hb d_GS_isLetterNumber_7 (by decide) (fun c_7 => ?_) (fun c_7 => ?_)
    · refine lv_iconst (v := 0) hx hb d_GS_isLetterNumber_14 (by decide) ?_
      exact W.zret (v := 0) hx hb hr (bl_nar (Or.inl rfl)) (fun t ht hW => ⟨0, rfl, ⟨by simp only [f_GS_isLetterNumber, if_neg c_1, if_pos c_7], (Or.inl rfl)⟩, ht⟩) (fun q h => absurd h List.not_mem_nil) d_GS_isLetterNumber_15
    · refine lv_iconst (v := 1) hx hb d_GS_isLetterNumber_10 (by decide) ?_
      refine lv_goto (tgt := 15) hx hb d_GS_isLetterNumber_11 (by decide) ?_
      exact W.zret (v := 1) hx hb hr (bl_nar (Or.inr rfl)) (fun t ht hW => ⟨1, rfl, ⟨by simp only [f_GS_isLetterNumber, if_neg c_1, if_neg c_7], (Or.inr rfl)⟩, ht⟩) (fun q h => absurd h List.not_mem_nil) d_GS_isLetterNumber_15
set_option maxHeartbeats 4000000 in
set_option maxRecDepth 100000 in
theorem c_GS_hasBit (l : Launch) (p0 : Int32) (p1 : Int32) : Met l y_GS_hasBit ws_GS_hasBit ({ frames := 0, cells := 0, slots := 0, locals := 0 }) (va_Pc [.int p0, .int p1] NW) (vp_Si (fun r => r = f_GS_hasBit p0 p1 ∧ bl r)) 0 0 (fun _ => False) := by
  refine Met.ofW (cc := b_GS_hasBit) (maxL := 2) (ret := (some .boolean)) (by decide) rfl ?_
  intro p e s m args below meth c s₁ B hml hv
  obtain ⟨rfl, hN⟩ := hv
  have hx := B.exec
  have hb := B.bytes
  have hr := B.returns
  have hts := atoms_spec (ws := ws_GS_hasBit) B.pre
  have hown : s.vm.findClass R_GS = some m.cls := findClass_of_methodNamed B.named
  have hlocks := B.notSynchronized
  have hl := lv_entry ([.int p0, .int p1]) (n := 2) (Nat.le_of_ble_eq_true rfl)
  rw [lg_entry_eq]
  generalize (lg_sl ([.int p0, .int p1]) ++ List.replicate (2 - (lg_sl ([.int p0, .int p1])).length) Slot.unset).toArray = ls at hl ⊢
  have hl : lv_has ls 2 [(0, .int p0), (1, .int p1)] := hl
  refine lv_iload_n hx hb d_GS_hasBit_0 rfl (lv_at hl 0 rfl) ?_
  refine lv_iload_n hx hb d_GS_hasBit_1 rfl (lv_at hl 1 rfl) ?_
  obtain ⟨x2, ex2⟩ : ∃ y : Int32, y = (p0.toUInt32 >>> (p1.toUInt32 &&& Int32.toUInt32 31)).toInt32 := ⟨_, rfl⟩
  refine lv_iushr (v := x2) hx hb d_GS_hasBit_2 (by rw [ex2]) ?_
  refine lv_iconst (v := 1) hx hb d_GS_hasBit_3 (by decide) ?_
  refine lv_iand hx hb d_GS_hasBit_4 ?_
  refine lv_topi (fun x4 ex4 => ?_)
  refine lv_if_eq (tgt := 12) hx hb d_GS_hasBit_5 (by decide) (fun c_5 => ?_) (fun c_5 => ?_)
  · refine lv_iconst (v := 0) hx hb d_GS_hasBit_12 (by decide) ?_
    exact W.zret (v := 0) hx hb hr (bl_nar (Or.inl rfl)) (fun t ht hW => ⟨0, rfl, ⟨by subst ex4; subst ex2; simp only [f_GS_hasBit, if_pos c_5], (Or.inl rfl)⟩, ht⟩) (fun q h => absurd h List.not_mem_nil) d_GS_hasBit_13
  · refine lv_iconst (v := 1) hx hb d_GS_hasBit_8 (by decide) ?_
    refine lv_goto (tgt := 13) hx hb d_GS_hasBit_9 (by decide) ?_
    exact W.zret (v := 1) hx hb hr (bl_nar (Or.inr rfl)) (fun t ht hW => ⟨1, rfl, ⟨by subst ex4; subst ex2; simp only [f_GS_hasBit, if_neg c_5], (Or.inr rfl)⟩, ht⟩) (fun q h => absurd h List.not_mem_nil) d_GS_hasBit_13
set_option maxHeartbeats 4000000 in
set_option maxRecDepth 100000 in
theorem c_GS_isVariable (l : Launch) (p0 : Int32) : Met l y_GS_isVariable ws_GS_isVariable ({ frames := 0, cells := 0, slots := 0, locals := 0 }) (va_Pc [.int p0] NW) (vp_Si (fun r => r = f_GS_isVariable p0 ∧ bl r)) 0 0 (fun _ => False) := by
  refine Met.ofW (cc := b_GS_isVariable) (maxL := 1) (ret := (some .boolean)) (by decide) rfl ?_
  intro p e s m args below meth c s₁ B hml hv
  obtain ⟨rfl, hN⟩ := hv
  have hx := B.exec
  have hb := B.bytes
  have hr := B.returns
  have hts := atoms_spec (ws := ws_GS_isVariable) B.pre
  have hown : s.vm.findClass R_GS = some m.cls := findClass_of_methodNamed B.named
  have hlocks := B.notSynchronized
  have hl := lv_entry ([.int p0]) (n := 1) (Nat.le_of_ble_eq_true rfl)
  rw [lg_entry_eq]
  generalize (lg_sl ([.int p0]) ++ List.replicate (1 - (lg_sl ([.int p0])).length) Slot.unset).toArray = ls at hl ⊢
  have hl : lv_has ls 1 [(0, .int p0)] := hl
  refine lv_iload_n hx hb d_GS_isVariable_0 rfl (lv_at hl 0 rfl) ?_
  refine lv_bipush (v := 97) hx hb d_GS_isVariable_1 (by decide) ?_
  refine lv_icmp_lt (tgt := 16) hx hb d_GS_isVariable_3 (by decide) (fun c_3 => ?_) (fun c_3 => ?_)
  · refine lv_iconst (v := 0) hx hb d_GS_isVariable_16 (by decide) ?_
    exact W.zret (v := 0) hx hb hr (bl_nar (Or.inl rfl)) (fun t ht hW => ⟨0, rfl, ⟨by simp only [f_GS_isVariable, if_pos c_3], (Or.inl rfl)⟩, ht⟩) (fun q h => absurd h List.not_mem_nil) d_GS_isVariable_17
  · refine lv_iload_n hx hb d_GS_isVariable_6 rfl (lv_at hl 0 rfl) ?_
    refine lv_bipush (v := 104) hx hb d_GS_isVariable_7 (by decide) ?_
    refine lv_icmp_gt (tgt := 16) hx hb d_GS_isVariable_9 (by decide) (fun c_9 => ?_) (fun c_9 => ?_)
    · refine lv_iconst (v := 0) hx hb d_GS_isVariable_16 (by decide) ?_
      exact W.zret (v := 0) hx hb hr (bl_nar (Or.inl rfl)) (fun t ht hW => ⟨0, rfl, ⟨by simp only [f_GS_isVariable, if_neg c_3, if_pos c_9], (Or.inl rfl)⟩, ht⟩) (fun q h => absurd h List.not_mem_nil) d_GS_isVariable_17
    · refine lv_iconst (v := 1) hx hb d_GS_isVariable_12 (by decide) ?_
      refine lv_goto (tgt := 17) hx hb d_GS_isVariable_13 (by decide) ?_
      exact W.zret (v := 1) hx hb hr (bl_nar (Or.inr rfl)) (fun t ht hW => ⟨1, rfl, ⟨by simp only [f_GS_isVariable, if_neg c_3, if_neg c_9], (Or.inr rfl)⟩, ht⟩) (fun q h => absurd h List.not_mem_nil) d_GS_isVariable_17
set_option maxHeartbeats 4000000 in
set_option maxRecDepth 100000 in
theorem c_RD_behindFirstSign (l : Launch) (p0 : Int32) : Met l y_RD_behindFirstSign ws_RD_behindFirstSign ({ frames := 1, cells := 0, slots := 0, locals := 20 }) (va_Pc [.int p0] NW) (vp_Si (fun r => r = f_RD_behindFirstSign p0)) 0 0 (fun _ => False) := by
  refine Met.ofW (cc := b_RD_behindFirstSign) (maxL := 1) (ret := (some .int)) (by decide) rfl ?_
  intro p e s m args below meth c s₁ B hml hv
  obtain ⟨rfl, hN⟩ := hv
  have hx := B.exec
  have hb := B.bytes
  have hr := B.returns
  have hts := atoms_spec (ws := ws_RD_behindFirstSign) B.pre
  have hown : s.vm.findClass R_RD = some m.cls := findClass_of_methodNamed B.named
  have hlocks := B.notSynchronized
  have hl := lv_entry ([.int p0]) (n := 1) (Nat.le_of_ble_eq_true rfl)
  rw [lg_entry_eq]
  generalize (lg_sl ([.int p0]) ++ List.replicate (1 - (lg_sl ([.int p0])).length) Slot.unset).toArray = ls at hl ⊢
  have hl : lv_has ls 1 [(0, .int p0)] := hl
  refine lv_iload_n hx hb d_RD_behindFirstSign_0 rfl (lv_at hl 0 rfl) ?_
  refine vp_callSi (va_runSN (As := [.int p0]) (rest := []) ⟨hx, hb, hml, hown, hts⟩ (c_GS_isVariable l p0) ⟨va_cnB 1 hts (gW kw202) rfl rfl rfl (hN.1 (R_RD, 100, y_GS_isVariable, "GateStack") (by decide +kernel)) (hts _ (List.mem_cons_of_mem _ kw1)) (by decide +kernel) ⟨by show (0 : Nat) + 1 ≤ 1; omega, by show 8 + (1 + 11) + 0 ≤ 20; omega⟩, (hts _ (List.mem_cons_of_mem _ kw201)), trivial⟩ ⟨blindP, fun U hU hW => ⟨rfl, NW_warm hW hN⟩⟩ rfl rfl hl.1 rfl (lv_room (Nat.le_of_ble_eq_true rfl)) d_RD_behindFirstSign_1 ⟨Nat.zero_le _, Nat.zero_le _⟩).run (fun x1 ex1 => ?_)
  obtain ⟨ex1, bx1⟩ := ex1
  refine lv_if_eq (tgt := 9) hx hb d_RD_behindFirstSign_4 (by decide) (fun c_4 => ?_) (fun c_4 => ?_)
  · refine lv_iload_n hx hb d_RD_behindFirstSign_9 rfl (lv_at hl 0 rfl) ?_
    refine vp_callSi (va_runSN (As := [.int p0]) (rest := []) ⟨hx, hb, hml, hown, hts⟩ (c_GS_isLetter l p0) ⟨va_cnB 1 hts (gW kw167) rfl rfl rfl (hN.1 (R_RD, 72, y_GS_isLetter, "GateStack") (by decide +kernel)) (hts _ (List.mem_cons_of_mem _ kw1)) (by decide +kernel) ⟨by show (0 : Nat) + 1 ≤ 1; omega, by show 8 + (1 + 11) + 0 ≤ 20; omega⟩, (hts _ (List.mem_cons_of_mem _ kw166)), trivial⟩ ⟨blindP, fun U hU hW => ⟨rfl, NW_warm hW hN⟩⟩ rfl rfl hl.1 rfl (lv_room (Nat.le_of_ble_eq_true rfl)) d_RD_behindFirstSign_10 ⟨Nat.zero_le _, Nat.zero_le _⟩).run (fun x10 ex10 => ?_)
    obtain ⟨ex10, bx10⟩ := ex10
    refine lv_if_eq (tgt := 18) hx hb d_RD_behindFirstSign_13 (by decide) (fun c_13 => ?_) (fun c_13 => ?_)
    · refine lv_iload_n hx hb d_RD_behindFirstSign_18 rfl (lv_at hl 0 rfl) ?_
      refine lv_bipush (v := 33) hx hb d_RD_behindFirstSign_19 (by decide) ?_
      refine lv_icmp_eq (tgt := 36) hx hb d_RD_behindFirstSign_21 (by decide) (fun c_21 => ?_) (fun c_21 => ?_)
      · refine lv_bipush (v := 6) hx hb d_RD_behindFirstSign_36 (by decide) ?_
        refine lv_goto (tgt := 42) hx hb d_RD_behindFirstSign_38 (by decide) ?_
        exact W.iret (v := 6) hx hb hr (fun t ht hW => ⟨6, rfl, by subst ex10; subst ex1; simp only [f_RD_behindFirstSign, if_pos c_4, if_pos c_13, if_pos c_21], ht⟩) (fun q h => absurd h List.not_mem_nil) d_RD_behindFirstSign_42
      · refine lv_iload_n hx hb d_RD_behindFirstSign_24 rfl (lv_at hl 0 rfl) ?_
        refine lv_bipush (v := 63) hx hb d_RD_behindFirstSign_25 (by decide) ?_
        refine lv_icmp_eq (tgt := 36) hx hb d_RD_behindFirstSign_27 (by decide) (fun c_27 => ?_) (fun c_27 => ?_)
        · refine lv_bipush (v := 6) hx hb d_RD_behindFirstSign_36 (by decide) ?_
          refine lv_goto (tgt := 42) hx hb d_RD_behindFirstSign_38 (by decide) ?_
          exact W.iret (v := 6) hx hb hr (fun t ht hW => ⟨6, rfl, by subst ex10; subst ex1; simp only [f_RD_behindFirstSign, if_pos c_4, if_pos c_13, if_neg c_21, if_pos c_27], ht⟩) (fun q h => absurd h List.not_mem_nil) d_RD_behindFirstSign_42
        · refine lv_iload_n hx hb d_RD_behindFirstSign_30 rfl (lv_at hl 0 rfl) ?_
          refine lv_bipush (v := 64) hx hb d_RD_behindFirstSign_31 (by decide) ?_
          refine lv_icmp_ne (tgt := 41) hx hb d_RD_behindFirstSign_33 (by decide) (fun c_33 => ?_) (fun c_33 => ?_)
          · refine lv_iconst (v := 2) hx hb d_RD_behindFirstSign_41 (by decide) ?_
            exact W.iret (v := 2) hx hb hr (fun t ht hW => ⟨2, rfl, by subst ex10; subst ex1; simp only [f_RD_behindFirstSign, if_pos c_4, if_pos c_13, if_neg c_21, if_neg c_27, if_neg c_33], ht⟩) (fun q h => absurd h List.not_mem_nil) d_RD_behindFirstSign_42
          · refine lv_bipush (v := 6) hx hb d_RD_behindFirstSign_36 (by decide) ?_
            refine lv_goto (tgt := 42) hx hb d_RD_behindFirstSign_38 (by decide) ?_
            exact W.iret (v := 6) hx hb hr (fun t ht hW => ⟨6, rfl, by subst ex10; subst ex1; simp only [f_RD_behindFirstSign, if_pos c_4, if_pos c_13, if_neg c_21, if_neg c_27, if_pos c_33], ht⟩) (fun q h => absurd h List.not_mem_nil) d_RD_behindFirstSign_42
    · refine lv_iconst (v := 5) hx hb d_RD_behindFirstSign_16 (by decide) ?_
      exact W.iret (v := 5) hx hb hr (fun t ht hW => ⟨5, rfl, by subst ex10; subst ex1; simp only [f_RD_behindFirstSign, if_pos c_4, if_neg c_13], ht⟩) (fun q h => absurd h List.not_mem_nil) d_RD_behindFirstSign_17
  · refine lv_iconst (v := 4) hx hb d_RD_behindFirstSign_7 (by decide) ?_
    exact W.iret (v := 4) hx hb hr (fun t ht hW => ⟨4, rfl, by subst ex1; simp only [f_RD_behindFirstSign, if_neg c_4], ht⟩) (fun q h => absurd h List.not_mem_nil) d_RD_behindFirstSign_8
set_option maxHeartbeats 4000000 in
set_option maxRecDepth 100000 in
theorem c_GS_isPrefix (l : Launch) (p0 : Int32) : Met l y_GS_isPrefix ws_GS_isPrefix ({ frames := 0, cells := 0, slots := 0, locals := 0 }) (va_Pc [.int p0] NW) (vp_Si (fun r => r = f_GS_isPrefix p0 ∧ bl r)) 0 0 (fun _ => False) := by
  refine Met.ofW (cc := b_GS_isPrefix) (maxL := 1) (ret := (some .boolean)) (by decide) rfl ?_
  intro p e s m args below meth c s₁ B hml hv
  obtain ⟨rfl, hN⟩ := hv
  have hx := B.exec
  have hb := B.bytes
  have hr := B.returns
  have hts := atoms_spec (ws := ws_GS_isPrefix) B.pre
  have hown : s.vm.findClass R_GS = some m.cls := findClass_of_methodNamed B.named
  have hlocks := B.notSynchronized
  have hl := lv_entry ([.int p0]) (n := 1) (Nat.le_of_ble_eq_true rfl)
  rw [lg_entry_eq]
  generalize (lg_sl ([.int p0]) ++ List.replicate (1 - (lg_sl ([.int p0])).length) Slot.unset).toArray = ls at hl ⊢
  have hl : lv_has ls 1 [(0, .int p0)] := hl
  refine lv_iload_n hx hb d_GS_isPrefix_0 rfl (lv_at hl 0 rfl) ?_
  refine lv_bipush (v := 126) hx hb d_GS_isPrefix_1 (by decide) ?_
  refine lv_icmp_eq (tgt := 12) hx hb d_GS_isPrefix_3 (by decide) (fun c_3 => ?_) (fun c_3 => ?_)
  · refine lv_iconst (v := 1) hx hb d_GS_isPrefix_12 (by decide) ?_
    refine lv_goto (tgt := 17) hx hb d_GS_isPrefix_13 (by decide) ?_
    exact W.zret (v := 1) hx hb hr (bl_nar (Or.inr rfl)) (fun t ht hW => ⟨1, rfl, ⟨by simp only [f_GS_isPrefix, if_pos c_3], (Or.inr rfl)⟩, ht⟩) (fun q h => absurd h List.not_mem_nil) d_GS_isPrefix_17
  · refine lv_iload_n hx hb d_GS_isPrefix_6 rfl (lv_at hl 0 rfl) ?_
    refine lv_bipush (v := 45) hx hb d_GS_isPrefix_7 (by decide) ?_
    refine lv_icmp_ne (tgt := 16) hx hb d_GS_isPrefix_9 (by decide) (fun c_9 => ?_) (fun c_9 => ?_)
    · refine lv_iconst (v := 0) hx hb d_GS_isPrefix_16 (by decide) ?_
      exact W.zret (v := 0) hx hb hr (bl_nar (Or.inl rfl)) (fun t ht hW => ⟨0, rfl, ⟨by simp only [f_GS_isPrefix, if_neg c_3, if_neg c_9], (Or.inl rfl)⟩, ht⟩) (fun q h => absurd h List.not_mem_nil) d_GS_isPrefix_17
    · refine lv_iconst (v := 1) hx hb d_GS_isPrefix_12 (by decide) ?_
      refine lv_goto (tgt := 17) hx hb d_GS_isPrefix_13 (by decide) ?_
      exact W.zret (v := 1) hx hb hr (bl_nar (Or.inr rfl)) (fun t ht hW => ⟨1, rfl, ⟨by simp only [f_GS_isPrefix, if_neg c_3, if_pos c_9], (Or.inr rfl)⟩, ht⟩) (fun q h => absurd h List.not_mem_nil) d_GS_isPrefix_17
set_option maxHeartbeats 4000000 in
set_option maxRecDepth 100000 in
theorem c_GS_isDigit (l : Launch) (p0 : Int32) : Met l y_GS_isDigit ws_GS_isDigit ({ frames := 0, cells := 0, slots := 0, locals := 0 }) (va_Pc [.int p0] NW) (vp_Si (fun r => r = f_GS_isDigit p0 ∧ bl r)) 0 0 (fun _ => False) := by
  refine Met.ofW (cc := b_GS_isDigit) (maxL := 1) (ret := (some .boolean)) (by decide) rfl ?_
  intro p e s m args below meth c s₁ B hml hv
  obtain ⟨rfl, hN⟩ := hv
  have hx := B.exec
  have hb := B.bytes
  have hr := B.returns
  have hts := atoms_spec (ws := ws_GS_isDigit) B.pre
  have hown : s.vm.findClass R_GS = some m.cls := findClass_of_methodNamed B.named
  have hlocks := B.notSynchronized
  have hl := lv_entry ([.int p0]) (n := 1) (Nat.le_of_ble_eq_true rfl)
  rw [lg_entry_eq]
  generalize (lg_sl ([.int p0]) ++ List.replicate (1 - (lg_sl ([.int p0])).length) Slot.unset).toArray = ls at hl ⊢
  have hl : lv_has ls 1 [(0, .int p0)] := hl
  refine lv_iload_n hx hb d_GS_isDigit_0 rfl (lv_at hl 0 rfl) ?_
  refine lv_bipush (v := 48) hx hb d_GS_isDigit_1 (by decide) ?_
  refine lv_icmp_lt (tgt := 16) hx hb d_GS_isDigit_3 (by decide) (fun c_3 => ?_) (fun c_3 => ?_)
  · refine lv_iconst (v := 0) hx hb d_GS_isDigit_16 (by decide) ?_
    exact W.zret (v := 0) hx hb hr (bl_nar (Or.inl rfl)) (fun t ht hW => ⟨0, rfl, ⟨by simp only [f_GS_isDigit, if_pos c_3], (Or.inl rfl)⟩, ht⟩) (fun q h => absurd h List.not_mem_nil) d_GS_isDigit_17
  · refine lv_iload_n hx hb d_GS_isDigit_6 rfl (lv_at hl 0 rfl) ?_
    refine lv_bipush (v := 57) hx hb d_GS_isDigit_7 (by decide) ?_
    refine lv_icmp_gt (tgt := 16) hx hb d_GS_isDigit_9 (by decide) (fun c_9 => ?_) (fun c_9 => ?_)
    · refine lv_iconst (v := 0) hx hb d_GS_isDigit_16 (by decide) ?_
      exact W.zret (v := 0) hx hb hr (bl_nar (Or.inl rfl)) (fun t ht hW => ⟨0, rfl, ⟨by simp only [f_GS_isDigit, if_neg c_3, if_pos c_9], (Or.inl rfl)⟩, ht⟩) (fun q h => absurd h List.not_mem_nil) d_GS_isDigit_17
    · refine lv_iconst (v := 1) hx hb d_GS_isDigit_12 (by decide) ?_
      refine lv_goto (tgt := 17) hx hb d_GS_isDigit_13 (by decide) ?_
      exact W.zret (v := 1) hx hb hr (bl_nar (Or.inr rfl)) (fun t ht hW => ⟨1, rfl, ⟨by simp only [f_GS_isDigit, if_neg c_3, if_neg c_9], (Or.inr rfl)⟩, ht⟩) (fun q h => absurd h List.not_mem_nil) d_GS_isDigit_17
set_option maxHeartbeats 4000000 in
set_option maxRecDepth 100000 in
theorem c_GS_operationOf (l : Launch) (p0 : Int32) : Met l y_GS_operationOf ws_GS_operationOf ({ frames := 0, cells := 0, slots := 0, locals := 0 }) (va_Pc [.int p0] NW) (vp_Si (fun r => r = f_GS_operationOf p0)) 0 0 (fun _ => False) := by
  refine Met.ofW (cc := b_GS_operationOf) (maxL := 1) (ret := (some .int)) (by decide) rfl ?_
  intro p e s m args below meth c s₁ B hml hv
  obtain ⟨rfl, hN⟩ := hv
  have hx := B.exec
  have hb := B.bytes
  have hr := B.returns
  have hts := atoms_spec (ws := ws_GS_operationOf) B.pre
  have hown : s.vm.findClass R_GS = some m.cls := findClass_of_methodNamed B.named
  have hlocks := B.notSynchronized
  have hl := lv_entry ([.int p0]) (n := 1) (Nat.le_of_ble_eq_true rfl)
  rw [lg_entry_eq]
  generalize (lg_sl ([.int p0]) ++ List.replicate (1 - (lg_sl ([.int p0])).length) Slot.unset).toArray = ls at hl ⊢
  have hl : lv_has ls 1 [(0, .int p0)] := hl
  refine lv_iload_n hx hb d_GS_operationOf_0 rfl (lv_at hl 0 rfl) ?_
  by_cases c_1_38 : p0 = 38
  · refine lv_lookup (tgt := 72) hx hb d_GS_operationOf_1 (by decide) (by rw [c_1_38]; first | done | rfl) (by decide) ?_
    refine lv_iconst (v := 2) hx hb d_GS_operationOf_72 (by decide) ?_
    exact W.iret (v := 2) hx hb hr (fun t ht hW => ⟨2, rfl, by simp only [f_GS_operationOf, if_pos c_1_38], ht⟩) (fun q h => absurd h List.not_mem_nil) d_GS_operationOf_73
  by_cases c_1_43 : p0 = 43
  · refine lv_lookup (tgt := 68) hx hb d_GS_operationOf_1 (by decide) (by rw [c_1_43]; first | done | rfl) (by decide) ?_
    refine lv_iconst (v := 0) hx hb d_GS_operationOf_68 (by decide) ?_
    exact W.iret (v := 0) hx hb hr (fun t ht hW => ⟨0, rfl, by simp only [f_GS_operationOf, if_neg c_1_38, if_pos c_1_43], ht⟩) (fun q h => absurd h List.not_mem_nil) d_GS_operationOf_69
  by_cases c_1_45 : p0 = 45
  · refine lv_lookup (tgt := 70) hx hb d_GS_operationOf_1 (by decide) (by rw [c_1_45]; first | done | rfl) (by decide) ?_
    refine lv_iconst (v := 1) hx hb d_GS_operationOf_70 (by decide) ?_
    exact W.iret (v := 1) hx hb hr (fun t ht hW => ⟨1, rfl, by simp only [f_GS_operationOf, if_neg c_1_38, if_neg c_1_43, if_pos c_1_45], ht⟩) (fun q h => absurd h List.not_mem_nil) d_GS_operationOf_71
  by_cases c_1_60 : p0 = 60
  · refine lv_lookup (tgt := 78) hx hb d_GS_operationOf_1 (by decide) (by rw [c_1_60]; first | done | rfl) (by decide) ?_
    refine lv_iconst (v := 5) hx hb d_GS_operationOf_78 (by decide) ?_
    exact W.iret (v := 5) hx hb hr (fun t ht hW => ⟨5, rfl, by simp only [f_GS_operationOf, if_neg c_1_38, if_neg c_1_43, if_neg c_1_45, if_pos c_1_60], ht⟩) (fun q h => absurd h List.not_mem_nil) d_GS_operationOf_79
  by_cases c_1_61 : p0 = 61
  · refine lv_lookup (tgt := 80) hx hb d_GS_operationOf_1 (by decide) (by rw [c_1_61]; first | done | rfl) (by decide) ?_
    refine lv_bipush (v := 6) hx hb d_GS_operationOf_80 (by decide) ?_
    exact W.iret (v := 6) hx hb hr (fun t ht hW => ⟨6, rfl, by simp only [f_GS_operationOf, if_neg c_1_38, if_neg c_1_43, if_neg c_1_45, if_neg c_1_60, if_pos c_1_61], ht⟩) (fun q h => absurd h List.not_mem_nil) d_GS_operationOf_82
  by_cases c_1_94 : p0 = 94
  · refine lv_lookup (tgt := 76) hx hb d_GS_operationOf_1 (by decide) (by rw [c_1_94]; first | done | rfl) (by decide) ?_
    refine lv_iconst (v := 4) hx hb d_GS_operationOf_76 (by decide) ?_
    exact W.iret (v := 4) hx hb hr (fun t ht hW => ⟨4, rfl, by simp only [f_GS_operationOf, if_neg c_1_38, if_neg c_1_43, if_neg c_1_45, if_neg c_1_60, if_neg c_1_61, if_pos c_1_94], ht⟩) (fun q h => absurd h List.not_mem_nil) d_GS_operationOf_77
  by_cases c_1_124 : p0 = 124
  · refine lv_lookup (tgt := 74) hx hb d_GS_operationOf_1 (by decide) (by rw [c_1_124]; first | done | rfl) (by decide) ?_
    refine lv_iconst (v := 3) hx hb d_GS_operationOf_74 (by decide) ?_
    exact W.iret (v := 3) hx hb hr (fun t ht hW => ⟨3, rfl, by simp only [f_GS_operationOf, if_neg c_1_38, if_neg c_1_43, if_neg c_1_45, if_neg c_1_60, if_neg c_1_61, if_neg c_1_94, if_pos c_1_124], ht⟩) (fun q h => absurd h List.not_mem_nil) d_GS_operationOf_75
  refine lv_lookup (tgt := 83) (off := 82) hx hb d_GS_operationOf_1 (by decide) ((lv_osw c_1_38 (by decide)).trans ((lv_osw c_1_43 (by decide)).trans ((lv_osw c_1_45 (by decide)).trans ((lv_osw c_1_60 (by decide)).trans ((lv_osw c_1_61 (by decide)).trans ((lv_osw c_1_94 (by decide)).trans ((lv_osw c_1_124 (by decide)).trans rfl))))))) (by decide) ?_
  refine lv_iconst (v := (-1)) hx hb d_GS_operationOf_83 (by decide) ?_
  exact W.iret (v := (-1)) hx hb hr (fun t ht hW => ⟨(-1), rfl, by simp only [f_GS_operationOf, if_neg c_1_38, if_neg c_1_43, if_neg c_1_45, if_neg c_1_60, if_neg c_1_61, if_neg c_1_94, if_neg c_1_124], ht⟩) (fun q h => absurd h List.not_mem_nil) d_GS_operationOf_84
set_option maxHeartbeats 4000000 in
set_option maxRecDepth 100000 in
theorem c_JI_bitCount (l : Launch) (p0 : Int32) : Met l y_JI_bitCount ws_JI_bitCount ({ frames := 0, cells := 0, slots := 0, locals := 0 }) (va_Pc [.int p0] NW) (vp_Si (fun r => r = f_JI_bitCount p0)) 0 0 (fun _ => False) := by
  refine Met.ofW (cc := b_JI_bitCount) (maxL := 1) (ret := (some .int)) (by decide) rfl ?_
  intro p e s m args below meth c s₁ B hml hv
  obtain ⟨rfl, hN⟩ := hv
  have hx := B.exec
  have hb := B.bytes
  have hr := B.returns
  have hts := atoms_spec (ws := ws_JI_bitCount) B.pre
  have hown : s.vm.findClass R_JI = some m.cls := findClass_of_methodNamed B.named
  have hlocks := B.notSynchronized
  have hl := lv_entry ([.int p0]) (n := 1) (Nat.le_of_ble_eq_true rfl)
  rw [lg_entry_eq]
  generalize (lg_sl ([.int p0]) ++ List.replicate (1 - (lg_sl ([.int p0])).length) Slot.unset).toArray = ls at hl ⊢
  have hl : lv_has ls 1 [(0, .int p0)] := hl
  refine lv_iload_n hx hb d_JI_bitCount_0 rfl (lv_at hl 0 rfl) ?_
  refine lv_iload_n hx hb d_JI_bitCount_1 rfl (lv_at hl 0 rfl) ?_
  refine lv_iconst (v := 1) hx hb d_JI_bitCount_2 (by decide) ?_
  obtain ⟨x3, ex3⟩ : ∃ y : Int32, y = (p0.toUInt32 >>> ((1 : Int32).toUInt32 &&& Int32.toUInt32 31)).toInt32 := ⟨_, rfl⟩
  refine lv_iushr (v := x3) hx hb d_JI_bitCount_3 (by rw [ex3]) ?_
  refine lv_ldcw (v := 1431655765) hx hb hown (hts _ (List.mem_cons_of_mem _ kw247)) d_JI_bitCount_4 ?_
  refine lv_iand hx hb d_JI_bitCount_7 ?_
  refine lv_topi (fun x7 ex7 => ?_)
  refine lv_isub hx hb d_JI_bitCount_8 ?_
  refine lv_topi (fun x8 ex8 => ?_)
  refine lv_istore_n (lv' := [(0, .int x8)]) hx hb d_JI_bitCount_9 rfl hl (by decide) rfl (fun ls hl => ?_)
  refine lv_iload_n hx hb d_JI_bitCount_10 rfl (lv_at hl 0 rfl) ?_
  refine lv_ldcw (v := 858993459) hx hb hown (hts _ (List.mem_cons_of_mem _ kw248)) d_JI_bitCount_11 ?_
  refine lv_iand hx hb d_JI_bitCount_14 ?_
  refine lv_topi (fun x14 ex14 => ?_)
  refine lv_iload_n hx hb d_JI_bitCount_15 rfl (lv_at hl 0 rfl) ?_
  refine lv_iconst (v := 2) hx hb d_JI_bitCount_16 (by decide) ?_
  obtain ⟨x17, ex17⟩ : ∃ y : Int32, y = (x8.toUInt32 >>> ((2 : Int32).toUInt32 &&& Int32.toUInt32 31)).toInt32 := ⟨_, rfl⟩
  refine lv_iushr (v := x17) hx hb d_JI_bitCount_17 (by rw [ex17]) ?_
  refine lv_ldcw (v := 858993459) hx hb hown (hts _ (List.mem_cons_of_mem _ kw248)) d_JI_bitCount_18 ?_
  refine lv_iand hx hb d_JI_bitCount_21 ?_
  refine lv_topi (fun x21 ex21 => ?_)
  refine lv_iadd hx hb d_JI_bitCount_22 ?_
  refine lv_topi (fun x22 ex22 => ?_)
  refine lv_istore_n (lv' := [(0, .int x22)]) hx hb d_JI_bitCount_23 rfl hl (by decide) rfl (fun ls hl => ?_)
  refine lv_iload_n hx hb d_JI_bitCount_24 rfl (lv_at hl 0 rfl) ?_
  refine lv_iload_n hx hb d_JI_bitCount_25 rfl (lv_at hl 0 rfl) ?_
  refine lv_iconst (v := 4) hx hb d_JI_bitCount_26 (by decide) ?_
  obtain ⟨x27, ex27⟩ : ∃ y : Int32, y = (x22.toUInt32 >>> ((4 : Int32).toUInt32 &&& Int32.toUInt32 31)).toInt32 := ⟨_, rfl⟩
  refine lv_iushr (v := x27) hx hb d_JI_bitCount_27 (by rw [ex27]) ?_
  refine lv_iadd hx hb d_JI_bitCount_28 ?_
  refine lv_topi (fun x28 ex28 => ?_)
  refine lv_ldcw (v := 252645135) hx hb hown (hts _ (List.mem_cons_of_mem _ kw249)) d_JI_bitCount_29 ?_
  refine lv_iand hx hb d_JI_bitCount_32 ?_
  refine lv_topi (fun x32 ex32 => ?_)
  refine lv_istore_n (lv' := [(0, .int x32)]) hx hb d_JI_bitCount_33 rfl hl (by decide) rfl (fun ls hl => ?_)
  refine lv_iload_n hx hb d_JI_bitCount_34 rfl (lv_at hl 0 rfl) ?_
  refine lv_iload_n hx hb d_JI_bitCount_35 rfl (lv_at hl 0 rfl) ?_
  refine lv_bipush (v := 8) hx hb d_JI_bitCount_36 (by decide) ?_
  obtain ⟨x38, ex38⟩ : ∃ y : Int32, y = (x32.toUInt32 >>> ((8 : Int32).toUInt32 &&& Int32.toUInt32 31)).toInt32 := ⟨_, rfl⟩
  refine lv_iushr (v := x38) hx hb d_JI_bitCount_38 (by rw [ex38]) ?_
  refine lv_iadd hx hb d_JI_bitCount_39 ?_
  refine lv_topi (fun x39 ex39 => ?_)
  refine lv_istore_n (lv' := [(0, .int x39)]) hx hb d_JI_bitCount_40 rfl hl (by decide) rfl (fun ls hl => ?_)
  refine lv_iload_n hx hb d_JI_bitCount_41 rfl (lv_at hl 0 rfl) ?_
  refine lv_iload_n hx hb d_JI_bitCount_42 rfl (lv_at hl 0 rfl) ?_
  refine lv_bipush (v := 16) hx hb d_JI_bitCount_43 (by decide) ?_
  obtain ⟨x45, ex45⟩ : ∃ y : Int32, y = (x39.toUInt32 >>> ((16 : Int32).toUInt32 &&& Int32.toUInt32 31)).toInt32 := ⟨_, rfl⟩
  refine lv_iushr (v := x45) hx hb d_JI_bitCount_45 (by rw [ex45]) ?_
  refine lv_iadd hx hb d_JI_bitCount_46 ?_
  refine lv_topi (fun x46 ex46 => ?_)
  refine lv_istore_n (lv' := [(0, .int x46)]) hx hb d_JI_bitCount_47 rfl hl (by decide) rfl (fun ls hl => ?_)
  refine lv_iload_n hx hb d_JI_bitCount_48 rfl (lv_at hl 0 rfl) ?_
  refine lv_bipush (v := 63) hx hb d_JI_bitCount_49 (by decide) ?_
  refine lv_iand hx hb d_JI_bitCount_51 ?_
  refine lv_topi (fun x51 ex51 => ?_)
  exact W.iret (v := x51) hx hb hr (fun t ht hW => ⟨x51, rfl, by subst ex51; subst ex46; subst ex45; subst ex39; subst ex38; subst ex32; subst ex28; subst ex27; subst ex22; subst ex21; subst ex17; subst ex14; subst ex8; subst ex7; subst ex3; simp only [f_JI_bitCount], ht⟩) (fun q h => absurd h List.not_mem_nil) d_JI_bitCount_52
set_option maxHeartbeats 4000000 in
set_option maxRecDepth 100000 in
theorem c_GS_worked (l : Launch) (p0 : Int32) (p1 : Int32) (p2 : Int32) : Met l y_GS_worked ws_GS_worked ({ frames := 0, cells := 0, slots := 0, locals := 0 }) (va_Pc [.int p0, .int p1, .int p2] NW) (vp_Si (fun r => r = f_GS_worked p0 p1 p2)) 0 0 (fun _ => False) := by
  refine Met.ofW (cc := b_GS_worked) (maxL := 3) (ret := (some .int)) (by decide) rfl ?_
  intro p e s m args below meth c s₁ B hml hv
  obtain ⟨rfl, hN⟩ := hv
  have hx := B.exec
  have hb := B.bytes
  have hr := B.returns
  have hts := atoms_spec (ws := ws_GS_worked) B.pre
  have hown : s.vm.findClass R_GS = some m.cls := findClass_of_methodNamed B.named
  have hlocks := B.notSynchronized
  have hl := lv_entry ([.int p0, .int p1, .int p2]) (n := 3) (Nat.le_of_ble_eq_true rfl)
  rw [lg_entry_eq]
  generalize (lg_sl ([.int p0, .int p1, .int p2]) ++ List.replicate (3 - (lg_sl ([.int p0, .int p1, .int p2])).length) Slot.unset).toArray = ls at hl ⊢
  have hl : lv_has ls 3 [(0, .int p0), (1, .int p1), (2, .int p2)] := hl
  refine lv_iload_n hx hb d_GS_worked_0 rfl (lv_at hl 0 rfl) ?_
  by_cases c_1_0 : p0 = 0
  · refine lv_tableIn (tgt := 40) hx hb d_GS_worked_1 (by rw [c_1_0]; decide) (by rw [c_1_0]; decide) (by rw [c_1_0]; first | done | rfl) (by decide) ?_
    refine lv_iload_n hx hb d_GS_worked_40 rfl (lv_at hl 1 rfl) ?_
    refine lv_iload_n hx hb d_GS_worked_41 rfl (lv_at hl 2 rfl) ?_
    refine lv_iadd hx hb d_GS_worked_42 ?_
    refine lv_topi (fun x42 ex42 => ?_)
    exact W.iret (v := x42) hx hb hr (fun t ht hW => ⟨x42, rfl, by subst ex42; simp only [f_GS_worked, if_pos c_1_0], ht⟩) (fun q h => absurd h List.not_mem_nil) d_GS_worked_43
  by_cases c_1_1 : p0 = 1
  · refine lv_tableIn (tgt := 44) hx hb d_GS_worked_1 (by rw [c_1_1]; decide) (by rw [c_1_1]; decide) (by rw [c_1_1]; first | done | rfl) (by decide) ?_
    refine lv_iload_n hx hb d_GS_worked_44 rfl (lv_at hl 1 rfl) ?_
    refine lv_iload_n hx hb d_GS_worked_45 rfl (lv_at hl 2 rfl) ?_
    refine lv_isub hx hb d_GS_worked_46 ?_
    refine lv_topi (fun x46 ex46 => ?_)
    exact W.iret (v := x46) hx hb hr (fun t ht hW => ⟨x46, rfl, by subst ex46; simp only [f_GS_worked, if_neg c_1_0, if_pos c_1_1], ht⟩) (fun q h => absurd h List.not_mem_nil) d_GS_worked_47
  by_cases c_1_2 : p0 = 2
  · refine lv_tableIn (tgt := 48) hx hb d_GS_worked_1 (by rw [c_1_2]; decide) (by rw [c_1_2]; decide) (by rw [c_1_2]; first | done | rfl) (by decide) ?_
    refine lv_iload_n hx hb d_GS_worked_48 rfl (lv_at hl 1 rfl) ?_
    refine lv_iload_n hx hb d_GS_worked_49 rfl (lv_at hl 2 rfl) ?_
    refine lv_iand hx hb d_GS_worked_50 ?_
    refine lv_topi (fun x50 ex50 => ?_)
    exact W.iret (v := x50) hx hb hr (fun t ht hW => ⟨x50, rfl, by subst ex50; simp only [f_GS_worked, if_neg c_1_0, if_neg c_1_1, if_pos c_1_2], ht⟩) (fun q h => absurd h List.not_mem_nil) d_GS_worked_51
  by_cases c_1_3 : p0 = 3
  · refine lv_tableIn (tgt := 52) hx hb d_GS_worked_1 (by rw [c_1_3]; decide) (by rw [c_1_3]; decide) (by rw [c_1_3]; first | done | rfl) (by decide) ?_
    refine lv_iload_n hx hb d_GS_worked_52 rfl (lv_at hl 1 rfl) ?_
    refine lv_iload_n hx hb d_GS_worked_53 rfl (lv_at hl 2 rfl) ?_
    refine lv_ior hx hb d_GS_worked_54 ?_
    refine lv_topi (fun x54 ex54 => ?_)
    exact W.iret (v := x54) hx hb hr (fun t ht hW => ⟨x54, rfl, by subst ex54; simp only [f_GS_worked, if_neg c_1_0, if_neg c_1_1, if_neg c_1_2, if_pos c_1_3], ht⟩) (fun q h => absurd h List.not_mem_nil) d_GS_worked_55
  by_cases c_1_4 : p0 = 4
  · refine lv_tableIn (tgt := 56) hx hb d_GS_worked_1 (by rw [c_1_4]; decide) (by rw [c_1_4]; decide) (by rw [c_1_4]; first | done | rfl) (by decide) ?_
    refine lv_iload_n hx hb d_GS_worked_56 rfl (lv_at hl 1 rfl) ?_
    refine lv_iload_n hx hb d_GS_worked_57 rfl (lv_at hl 2 rfl) ?_
    refine lv_ixor hx hb d_GS_worked_58 ?_
    refine lv_topi (fun x58 ex58 => ?_)
    exact W.iret (v := x58) hx hb hr (fun t ht hW => ⟨x58, rfl, by subst ex58; simp only [f_GS_worked, if_neg c_1_0, if_neg c_1_1, if_neg c_1_2, if_neg c_1_3, if_pos c_1_4], ht⟩) (fun q h => absurd h List.not_mem_nil) d_GS_worked_59
  by_cases c_1_5 : p0 = 5
  · refine lv_tableIn (tgt := 60) hx hb d_GS_worked_1 (by rw [c_1_5]; decide) (by rw [c_1_5]; decide) (by rw [c_1_5]; first | done | rfl) (by decide) ?_
    refine lv_iload_n hx hb d_GS_worked_60 rfl (lv_at hl 1 rfl) ?_
    refine lv_iload_n hx hb d_GS_worked_61 rfl (lv_at hl 2 rfl) ?_
    refine lv_icmp_ge (tgt := 69) hx hb d_GS_worked_62 (by decide) (fun c_62 => ?_) (fun c_62 => ?_)
    · refine lv_iconst (v := 0) hx hb d_GS_worked_69 (by decide) ?_
      exact W.iret (v := 0) hx hb hr (fun t ht hW => ⟨0, rfl, by simp only [f_GS_worked, if_neg c_1_0, if_neg c_1_1, if_neg c_1_2, if_neg c_1_3, if_neg c_1_4, if_pos c_1_5, if_pos c_62], ht⟩) (fun q h => absurd h List.not_mem_nil) d_GS_worked_70
    · refine lv_iconst (v := 1) hx hb d_GS_worked_65 (by decide) ?_
      refine lv_goto (tgt := 70) hx hb d_GS_worked_66 (by decide) ?_
      exact W.iret (v := 1) hx hb hr (fun t ht hW => ⟨1, rfl, by simp only [f_GS_worked, if_neg c_1_0, if_neg c_1_1, if_neg c_1_2, if_neg c_1_3, if_neg c_1_4, if_pos c_1_5, if_neg c_62], ht⟩) (fun q h => absurd h List.not_mem_nil) d_GS_worked_70
  refine lv_tableOut (tgt := 71) hx hb d_GS_worked_1 (by have h0 := lv_neT (a := 0) c_1_0 (by decide); have h1 := lv_neT (a := 1) c_1_1 (by decide); have h2 := lv_neT (a := 2) c_1_2 (by decide); have h3 := lv_neT (a := 3) c_1_3 (by decide); have h4 := lv_neT (a := 4) c_1_4 (by decide); have h5 := lv_neT (a := 5) c_1_5 (by decide); omega) (by decide) ?_
  refine lv_iload_n hx hb d_GS_worked_71 rfl (lv_at hl 1 rfl) ?_
  refine lv_iload_n hx hb d_GS_worked_72 rfl (lv_at hl 2 rfl) ?_
  refine lv_icmp_ne (tgt := 80) hx hb d_GS_worked_73 (by decide) (fun c_73 => ?_) (fun c_73 => ?_)
  · refine lv_iconst (v := 0) hx hb d_GS_worked_80 (by decide) ?_
    exact W.iret (v := 0) hx hb hr (fun t ht hW => ⟨0, rfl, by simp only [f_GS_worked, if_neg c_1_0, if_neg c_1_1, if_neg c_1_2, if_neg c_1_3, if_neg c_1_4, if_neg c_1_5, if_neg c_73], ht⟩) (fun q h => absurd h List.not_mem_nil) d_GS_worked_81
  · refine lv_iconst (v := 1) hx hb d_GS_worked_76 (by decide) ?_
    refine lv_goto (tgt := 81) hx hb d_GS_worked_77 (by decide) ?_
    exact W.iret (v := 1) hx hb hr (fun t ht hW => ⟨1, rfl, by simp only [f_GS_worked, if_neg c_1_0, if_neg c_1_1, if_neg c_1_2, if_neg c_1_3, if_neg c_1_4, if_neg c_1_5, if_pos c_73], ht⟩) (fun q h => absurd h List.not_mem_nil) d_GS_worked_81
set_option maxHeartbeats 4000000 in
set_option maxRecDepth 100000 in
theorem c_GS_isVariableNumber (l : Launch) (p0 : Int32) : Met l y_GS_isVariableNumber ws_GS_isVariableNumber ({ frames := 0, cells := 0, slots := 0, locals := 0 }) (va_Pc [.int p0] NW) (vp_Si (fun r => r = f_GS_isVariableNumber p0 ∧ bl r)) 0 0 (fun _ => False) := by
  refine Met.ofW (cc := b_GS_isVariableNumber) (maxL := 1) (ret := (some .boolean)) (by decide) rfl ?_
  intro p e s m args below meth c s₁ B hml hv
  obtain ⟨rfl, hN⟩ := hv
  have hx := B.exec
  have hb := B.bytes
  have hr := B.returns
  have hts := atoms_spec (ws := ws_GS_isVariableNumber) B.pre
  have hown : s.vm.findClass R_GS = some m.cls := findClass_of_methodNamed B.named
  have hlocks := B.notSynchronized
  have hl := lv_entry ([.int p0]) (n := 1) (Nat.le_of_ble_eq_true rfl)
  rw [lg_entry_eq]
  generalize (lg_sl ([.int p0]) ++ List.replicate (1 - (lg_sl ([.int p0])).length) Slot.unset).toArray = ls at hl ⊢
  have hl : lv_has ls 1 [(0, .int p0)] := hl
  refine lv_iload_n hx hb d_GS_isVariableNumber_0 rfl (lv_at hl 0 rfl) ?_
  refine lv_if_lt (tgt := 14) hx hb d_GS_isVariableNumber_1 (by decide) (fun c_1 => ?_) (fun c_1 => ?_)
  · refine lv_iconst (v := 0) hx hb d_GS_isVariableNumber_14 (by decide) ?_
    exact W.zret (v := 0) hx hb hr (bl_nar (Or.inl rfl)) (fun t ht hW => ⟨0, rfl, ⟨by simp only [f_GS_isVariableNumber, if_pos c_1], (Or.inl rfl)⟩, ht⟩) (fun q h => absurd h List.not_mem_nil) d_GS_isVariableNumber_15
  · refine lv_iload_n hx hb d_GS_isVariableNumber_4 rfl (lv_at hl 0 rfl) ?_
    refine lv_bipush (v := 8) hx hb d_GS_isVariableNumber_5 (by decide) ?_
    refine lv_icmp_ge (tgt := 14) hx hb d_GS_isVariableNumber_7 (by decide) (fun c_7 => ?_) (fun c_7 => ?_)
    · refine lv_iconst (v := 0) hx hb d_GS_isVariableNumber_14 (by decide) ?_
      exact W.zret (v := 0) hx hb hr (bl_nar (Or.inl rfl)) (fun t ht hW => ⟨0, rfl, ⟨by simp only [f_GS_isVariableNumber, if_neg c_1, if_pos c_7], (Or.inl rfl)⟩, ht⟩) (fun q h => absurd h List.not_mem_nil) d_GS_isVariableNumber_15
    · refine lv_iconst (v := 1) hx hb d_GS_isVariableNumber_10 (by decide) ?_
      refine lv_goto (tgt := 15) hx hb d_GS_isVariableNumber_11 (by decide) ?_
      exact W.zret (v := 1) hx hb hr (bl_nar (Or.inr rfl)) (fun t ht hW => ⟨1, rfl, ⟨by simp only [f_GS_isVariableNumber, if_neg c_1, if_neg c_7], (Or.inr rfl)⟩, ht⟩) (fun q h => absurd h List.not_mem_nil) d_GS_isVariableNumber_15
