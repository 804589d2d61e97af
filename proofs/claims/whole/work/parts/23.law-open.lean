theorem dj_app {A : Nat → Prop} {G : GP} {G2 : MP} (h : va_D A (wC G S_0 ++ wM G2 M_0)) : dj G G2 := by
  intro x hx y hy hxy
  obtain ⟨p, hp, rfl⟩ := List.mem_map.mp hx
  obtain ⟨q, hq, rfl⟩ := List.mem_map.mp hy
  obtain ⟨i, hi⟩ := List.getElem?_of_mem hp
  obtain ⟨j, hj⟩ := List.getElem?_of_mem hq
  have li : i < (wC G S_0).length := (List.getElem?_eq_some_iff.mp hi).1
  have e1 : (wC G S_0 ++ wM G2 M_0)[i]? = some p := by rw [List.getElem?_append_left li]; exact hi
  have e2 : (wC G S_0 ++ wM G2 M_0)[(wC G S_0).length + j]? = some q := by rw [List.getElem?_append_right (by omega), Nat.add_sub_cancel_left]; exact hj
  have := h.1 _ _ _ _ e1 e2 hxy
  omega
set_option maxHeartbeats 8000000 in
set_option maxRecDepth 100000 in
theorem whole_open (Rel : Nat → CS → MS → Prop) (hsim : SimOK Rel) (hR0 : Rel 0 S_0 M_0) {p : Program} {e : Env} {s : State} {m : MethodId} {below : List Frame} {meth : Method} {c : Code} (l : Launch) {b L : Nat} {xs : Nat → Int32} (hL : L ≤ 2048) (C0 : lw_At p s m meth c b L xs) : W p l e room_1 s m #[Value.ref b] below meth c s.heap [] 0 0 (lw_Z below #[Value.ref b] s) (entryFrame m ([Value.ref b] : List Value).toArray 4) := by
  obtain ⟨hx, hb, hr, hml, hown, hts0, hXs, hbl, hlocks, hgv⟩ := id C0
  have hts := wsL_of hts0
  have hN := nw_start hts0
  have hA : ∀ q : Nat, s.heap.size ≤ q → (fun q : Nat => s.heap.size ≤ q) q := fun _ h => h
  have hbA : ¬ (fun q : Nat => s.heap.size ≤ q) b := Nat.not_le.mpr hbl
  obtain ⟨c0, iS0, hKn0⟩ := u_known (C := R_GS) (T := T_GS) (N := 6) (n := 6) hts (fun w h => List.mem_cons_of_mem _ (in_GS w h)) (hts _ (List.mem_cons_of_mem _ kw10))
  obtain ⟨c1, iS1, hKn1⟩ := u_known (C := R_MT) (T := T_MT) (N := 10) (n := 10) hts (fun w h => List.mem_cons_of_mem _ (in_MT w h)) (hts _ (List.mem_cons_of_mem _ kw18))
  obtain ⟨c2, iS2, hKn2⟩ := u_known (C := R_RD) (T := T_RD) (N := 8) (n := 8) hts (fun w h => List.mem_cons_of_mem _ (in_RD w h)) (hts _ (List.mem_cons_of_mem _ kw44))
  obtain ⟨c3, iS3, hKn3⟩ := u_known (C := R_PR) (T := T_PR) (N := 3) (n := 3) hts (fun w h => List.mem_cons_of_mem _ (in_PR w h)) (hts _ (List.mem_cons_of_mem _ kw65))
  obtain ⟨c4, iS4, hKn4⟩ := u_known (C := R_CA) (T := T_CA) (N := 2) (n := 2) hts (fun w h => List.mem_cons_of_mem _ (in_CA w h)) (hts _ (List.mem_cons_of_mem _ kw77))
  obtain ⟨c5, iS5, hKn5⟩ := u_known (C := R_MA) (T := T_MA) (N := 5) (n := 5) hts (fun w h => List.mem_cons_of_mem _ (in_MA w h)) (hts _ (List.mem_cons_of_mem _ kw86))
  obtain ⟨c6, iS6, hKn6⟩ := u_known (C := R_GM) (T := T_GM) (N := 30) (n := 30) hts (fun w h => List.mem_cons_of_mem _ (in_GM w h)) (hts _ (List.mem_cons_of_mem _ kw439))
  obtain ⟨D, hKc⟩ : ∃ (D : va_G), ∀ (k : Nat) (q : vw_C), vwCl[k]? = some q → u_Kn s q.1 q.2.1 q.2.2 (D.1 k) (D.2 k) := by
    refine ⟨(fun k => match k with | 0 => c0 | 1 => c1 | 2 => c2 | 3 => c3 | 4 => c4 | 5 => c5 | _ => c6, fun k => match k with | 0 => iS0 | 1 => iS1 | 2 => iS2 | 3 => iS3 | 4 => iS4 | 5 => iS5 | _ => iS6), ?_⟩
    intro k q hq
    match k, hq with
    | 0, hq => cases hq; exact hKn0
    | 1, hq => cases hq; exact hKn1
    | 2, hq => cases hq; exact hKn2
    | 3, hq => cases hq; exact hKn3
    | 4, hq => cases hq; exact hKn4
    | 5, hq => cases hq; exact hKn5
    | 6, hq => cases hq; exact hKn6
    | k + 7, hq => simp [vwCl] at hq
  obtain ⟨cI, kI, mI, fI, gI, tI⟩ := ty_start (ty := .int) (hts _ (List.mem_cons_of_mem _ kw42))
  obtain ⟨cZ, kZ, mZ, fZ, gZ, tZ⟩ := ty_start (ty := .boolean) (hts _ (List.mem_cons_of_mem _ kw504))
  obtain ⟨cL, kL, mL, fL, gL, tL⟩ := ty_start (ty := .long) (hts _ (List.mem_cons_of_mem _ kw505))
  obtain ⟨mM, cM, kM, u1, u2, u3, u4, u5⟩ := Cond.arrayOver_spec (va_AO.use (A := #[]) hN.2)
  have hK : va_K D vwCl [(cI, .int), (cM, .object "GateStack$ModuleText")] s := ⟨hKc, fun k q h => by
    match k, h with
    | 0, h => cases h; exact ⟨arr_ok gI tI, fI⟩
    | 1, h => cases h; exact ⟨arr_ok u3 u4, kM, mM, u3, u4, u1, u5⟩
    | k + 2, h => simp at h⟩
  have hK2 : va_K D vwCl [(cI, .int), (cZ, .boolean), (cL, .long)] s := ⟨hKc, fun k q h => by
    match k, h with
    | 0, h => cases h; exact ⟨arr_ok gI tI, fI⟩
    | 1, h => cases h; exact ⟨arr_ok gZ tZ, fZ⟩
    | 2, h => cases h; exact ⟨arr_ok gL tL, fL⟩
    | k + 3, h => simp at h⟩
  have hS : va_S (fun q : Nat => s.heap.size ≤ q) s.heap s.heap [] := va_S.rf
  have hP : va_P D vwCl [] s.heap := fun k q h => by simp at h
  have hD : va_D (fun q : Nat => s.heap.size ≤ q) [] := ⟨fun i j p q h => by simp at h, fun k q h => by simp at h⟩
  have hl := lv_entry ([.ref b]) (n := 4) (Nat.le_of_ble_eq_true rfl)
  rw [lg_entry_eq]
  generalize (lg_sl ([.ref b]) ++ List.replicate (4 - (lg_sl ([.ref b])).length) Slot.unset).toArray = ls at hl ⊢
  have hl : lv_has ls 4 [(0, .ref b)] := hl
  refine va_new (D := D) (ci := 0) (fs := [.null, .null, .null, .null, .null, .int 0]) (C := R_GS) (T := T_GS) (N := 6) hx hb hts (fun w h => List.mem_cons_of_mem _ (in_GS w h)) t_GS t_GS_ok hown (hts _ (List.mem_cons_of_mem _ kw9)) (hts _ (List.mem_cons_of_mem _ kw10)) (hts _ (List.mem_cons_of_mem _ kw1)) hK hP hD hS hA rfl (fun j hj => by rcases (show j = 0 ∨ j = 1 ∨ j = 2 ∨ j = 3 ∨ j = 4 ∨ j = 5 by omega) with rfl | rfl | rfl | rfl | rfl | rfl <;> rfl) (by show 0 + 1 ≤ 600000; omega) (by show 0 + 6 ≤ 7302250; omega) d_L_law_0 (fun q0 H hP hD hS => ?_)
  have hP : va_P D vwCl [(q0, .inr (0, [.null, .null, .null, .null, .null, .int 0]))] H := hP
  have hD : va_D (fun q : Nat => s.heap.size ≤ q) [(q0, .inr (0, [.null, .null, .null, .null, .null, .int 0]))] := hD
  refine W.widen (k := 1) (n := 6) (by omega) (by omega) ?_
  refine lv_dup hx hb d_L_law_3 rfl ?_
  have hFc := freeAll hD hS hA
  refine va_callv (va_runI (As := []) (rest := [.ref q0]) ⟨hx, hb, hml, hown, hts⟩ (c_GS_init l D cI cM q0 H.size) (cwI 0 hts (gW kw13) rfl rfl rfl (hts _ (List.mem_cons_of_mem _ kw1)) (hts _ (List.mem_cons_of_mem _ kw11)) (hts _ (List.mem_cons_of_mem _ kw12)) rfl (by decide +kernel) ⟨by show (2 : Nat) + 1 ≤ 2048; omega, by show 8 + (2 + 11) + 32 ≤ 84000; omega⟩) ⟨blindI, fun U hU hW => ⟨rfl, by rw [hU], by rw [hU]; exact hP, va_K.moved hW.alike hK, hD.weaken (fun _ _ _ _ => trivial), NW_warm hW hN⟩⟩ rfl rfl hl.1 rfl (lv_room (Nat.le_of_ble_eq_true rfl)) d_L_law_4 ⟨by show 1 + 33 ≤ 600000; omega, by show 6 + 1069 ≤ 7302250; omega⟩) hS (fun q _ h => hFc q h) hFc (fun u t H1 locs ht hvm hw hB hz1 hk1 hS => ?_)
  obtain ⟨G, eG, eG2, hP1, hD1⟩ := hB
  rw [ht] at hP1
  have hP := hP1
  have hD := hD1.weaken (B := fun q : Nat => s.heap.size ≤ q) (fun _ _ _ h => hFc _ h)
  have hKG : va_K D vwCl (tyC G) s := by unfold tyC; rw [eG2]; exact hK
  refine W.widen (k := 34) (n := 1075) (by omega) (by omega) ?_
  rw [← eG]
  refine lv_astore_n (lv' := [(1, .ref (aA G 0)), (0, .ref b)]) hx hb d_L_law_7 rfl hl (by decide) rfl (fun ls hl => ?_)
  refine va_new (D := D) (ci := 6) (fs := [.null, .null, .null, .int 0, .null, .int 0, .int 0, .int 0, .int 0, .int 0, .null, .null, .null, .null, .null, .null, .null, .null, .null, .int 0, .int 0, .int 0, .null, .int 0, .null, .null, .null, .null, .int 0, .int 0]) (C := R_GM) (T := T_GM) (N := 30) hx hb hts (fun w h => List.mem_cons_of_mem _ (in_GM w h)) t_GM t_GM_ok hown (hts _ (List.mem_cons_of_mem _ kw438)) (hts _ (List.mem_cons_of_mem _ kw439)) (hts _ (List.mem_cons_of_mem _ kw7)) hK hP hD hS hA rfl (fun j hj => by rcases (show j = 0 ∨ j = 1 ∨ j = 2 ∨ j = 3 ∨ j = 4 ∨ j = 5 ∨ j = 6 ∨ j = 7 ∨ j = 8 ∨ j = 9 ∨ j = 10 ∨ j = 11 ∨ j = 12 ∨ j = 13 ∨ j = 14 ∨ j = 15 ∨ j = 16 ∨ j = 17 ∨ j = 18 ∨ j = 19 ∨ j = 20 ∨ j = 21 ∨ j = 22 ∨ j = 23 ∨ j = 24 ∨ j = 25 ∨ j = 26 ∨ j = 27 ∨ j = 28 ∨ j = 29 by omega) with rfl | rfl | rfl | rfl | rfl | rfl | rfl | rfl | rfl | rfl | rfl | rfl | rfl | rfl | rfl | rfl | rfl | rfl | rfl | rfl | rfl | rfl | rfl | rfl | rfl | rfl | rfl | rfl | rfl | rfl <;> rfl) (by show 34 + 1 ≤ 600000; omega) (by show 1075 + 30 ≤ 7302250; omega) d_L_law_8 (fun q8 H hP hD hS => ?_)
  refine W.widen (k := 35) (n := 1105) (by omega) (by omega) ?_
  refine lv_dup hx hb d_L_law_11 rfl ?_
  have hPc : va_P D vwCl [(q8, .inr (6, [.null, .null, .null, .int 0, .null, .int 0, .int 0, .int 0, .int 0, .int 0, .null, .null, .null, .null, .null, .null, .null, .null, .null, .int 0, .int 0, .int 0, .null, .int 0, .null, .null, .null, .null, .int 0, .int 0]))] H := hP.sub [34] rfl
  have hDc : va_D (fun q : Nat => s.heap.size ≤ q) [(q8, .inr (6, [.null, .null, .null, .int 0, .null, .int 0, .int 0, .int 0, .int 0, .int 0, .null, .null, .null, .null, .null, .null, .null, .null, .null, .int 0, .int 0, .int 0, .null, .int 0, .null, .null, .null, .null, .int 0, .int 0]))] := hD.sub [34] (by decide) rfl
  have hPg : va_P D vwCl (wC G S_0) H := hP.sub [0, 1, 2, 3, 4, 5, 6, 7, 8, 9, 10, 11, 12, 13, 14, 15, 16, 17, 18, 19, 20, 21, 22, 23, 24, 25, 26, 27, 28, 29, 30, 31, 32, 33] rfl
  have hDg : va_D (fun q : Nat => s.heap.size ≤ q) (wC G S_0) := hD.sub [0, 1, 2, 3, 4, 5, 6, 7, 8, 9, 10, 11, 12, 13, 14, 15, 16, 17, 18, 19, 20, 21, 22, 23, 24, 25, 26, 27, 28, 29, 30, 31, 32, 33] (by decide) rfl
  have hFc2 : ∀ q, va_A [(q8, .inr (6, [.null, .null, .null, .int 0, .null, .int 0, .int 0, .int 0, .int 0, .int 0, .null, .null, .null, .null, .null, .null, .null, .null, .null, .int 0, .int 0, .int 0, .null, .int 0, .null, .null, .null, .null, .int 0, .int 0]))] H.size q → s.heap.size ≤ q := freeAll hDc hS hA
  refine va_callv (va_runI (As := []) (rest := [.ref q8]) ⟨hx, hb, hml, hown, hts⟩ (c_GM_init l D cI cZ cL q8 H.size) (cwI 0 hts (gW kw442) rfl rfl rfl (hts _ (List.mem_cons_of_mem _ kw7)) (hts _ (List.mem_cons_of_mem _ kw440)) (hts _ (List.mem_cons_of_mem _ kw441)) rfl (by decide +kernel) ⟨by show (1 : Nat) + 1 ≤ 2048; omega, by show 8 + (2 + 11) + 12 ≤ 84000; omega⟩) ⟨blindJ, fun U hU hW => ⟨rfl, by rw [hU], by rw [hU]; exact hPc, va_K.moved hW.alike hK2, hDc.weaken (fun _ _ _ _ => trivial)⟩⟩ rfl rfl hl.1 rfl (lv_room (Nat.le_of_ble_eq_true rfl)) d_L_law_12 ⟨by show 35 + 18 ≤ 600000; omega, by show 1105 + 1288 ≤ 7302250; omega⟩) hS (fun q _ h => hFc2 q h) hFc2 (fun u t H1 locs ht hvm hw hB hz1 hk1 hS => ?_)
  obtain ⟨G2, eH, eH2, hP1, hD1⟩ := hB
  rw [ht] at hP1
  obtain ⟨hPj, hDj⟩ := va_join (wr := wC G S_0) (w1 := wM G2 M_0) (wc := [(q8, .inr (6, [.null, .null, .null, .int 0, .null, .int 0, .int 0, .int 0, .int 0, .int 0, .null, .null, .null, .null, .null, .null, .null, .null, .null, .int 0, .int 0, .int 0, .null, .int 0, .null, .null, .null, .null, .int 0, .int 0]))]) hP hD [34] [0, 1, 2, 3, 4, 5, 6, 7, 8, 9, 10, 11, 12, 13, 14, 15, 16, 17, 18, 19, 20, 21, 22, 23, 24, 25, 26, 27, 28, 29, 30, 31, 32, 33] rfl rfl (by decide) (by decide) hk1 hFc2 hP1 hD1
  have hX : dj G G2 := dj_app hDj
  have hPa := hPj.sub (ws' := wC G S_0) [0, 1, 2, 3, 4, 5, 6, 7, 8, 9, 10, 11, 12, 13, 14, 15, 16, 17, 18, 19, 20, 21, 22, 23, 24, 25, 26, 27, 28, 29, 30, 31, 32, 33] rfl
  have hPb := hPj.sub (ws' := wM G2 M_0) [34, 35, 36, 37, 38, 39, 40, 41, 42, 43, 44, 45, 46, 47, 48, 49, 50, 51, 52] rfl
  have hDa := hDj.sub (ws' := wC G S_0) [0, 1, 2, 3, 4, 5, 6, 7, 8, 9, 10, 11, 12, 13, 14, 15, 16, 17, 18, 19, 20, 21, 22, 23, 24, 25, 26, 27, 28, 29, 30, 31, 32, 33] (by decide) rfl
  have hDb := hDj.sub (ws' := wM G2 M_0) [34, 35, 36, 37, 38, 39, 40, 41, 42, 43, 44, 45, 46, 47, 48, 49, 50, 51, 52] (by decide) rfl
  have hKM : va_K D vwCl (tyM G2) s := by unfold tyM; rw [eH2]; exact hK2
  refine W.widen (k := 53) (n := 2393) (by omega) (by omega) ?_
  rw [← eH]
  refine lv_astore_n (lv' := [(2, .ref (mA G2 0)), (1, .ref (aA G 0)), (0, .ref b)]) hx hb d_L_law_15 rfl hl (by decide) rfl (fun ls hl => ?_)
  refine lv_iconst (v := 0) hx hb d_L_law_16 (by decide) ?_
  refine lv_istore_n (lv' := [(3, .int 0), (2, .ref (mA G2 0)), (1, .ref (aA G 0)), (0, .ref b)]) hx hb d_L_law_17 rfl hl (by decide) rfl (fun ls hl => ?_)
  exact law_loop l hL C0 D G G2 hKG hKM hX Rel hsim 513 0 0 S_0 M_0 _ _ ls nI_0.symm (by omega) (by omega) hR0 hPa hPb hDa hDb hS hl
