/-- the links to private members of a nest mate -/
def nwM : List (String × Nat × MethodName × String) := [(R_GS, 15, y_MT_init, "GateStack"), (R_GS, 18, y_RD_init, "GateStack"), (R_GS, 25, y_PR_init, "GateStack"), (R_GS, 32, y_CA_init, "GateStack"), (R_GS, 39, y_MA_init, "GateStack"), (R_RD, 72, y_GS_isLetter, "GateStack"), (R_MT, 47, y_GS_isLetterNumber, "GateStack"), (R_MT, 51, y_GS_hasBit, "GateStack"), (R_RD, 100, y_GS_isVariable, "GateStack"), (R_RD, 106, y_GS_isPrefix, "GateStack"), (R_RD, 62, y_GS_isDigit, "GateStack"), (R_RD, 115, y_GS_operationOf, "GateStack"), (R_PR, 55, y_GS_hasBit, "GateStack"), (R_PR, 51, y_GS_isLetterNumber, "GateStack"), (R_MT, 62, y_GS_isLetter, "GateStack"), (R_MA, 53, y_GS_isLetter, "GateStack"), (R_MA, 69, y_GS_isVariable, "GateStack"), (R_CA, 43, y_GS_isDigit, "GateStack"), (R_CA, 50, y_GS_isVariable, "GateStack"), (R_CA, 36, y_GS_operationOf, "GateStack"), (R_CA, 39, y_GS_worked, "GateStack"), (R_CA, 15, y_GS_isVariableNumber, "GateStack")]
def NW (U : State) : Prop := (∀ q ∈ nwM, va_Nw (.methodLinkNest q.1 q.2.1 q.2.2.1 q.2.2.2) U) ∧ va_AO "GateStack$ModuleText" U
theorem NW_warm {s U : State} (hW : s.WarmedH U.vm) (h : NW s) : NW U := ⟨fun q hq => va_Nw.warmM hW (h.1 q hq), va_AO.moved hW.alike h.2⟩
theorem NW_vm {s U : State} (hv : s.vm = U.vm) (h : NW s) : NW U := ⟨fun q hq => va_Nw.same rfl hv (h.1 q hq), va_AO.moved (hv ▸ Vm.Alike.refl s.vm) h.2⟩
def rPre (D : va_G) (G : GP) (S : CS) (U : State) : Prop := va_P D vwCl (wC G S) U.heap ∧ va_K D vwCl (tyC G) U ∧ NW U
def cPre (D : va_G) (G : GP) (S : CS) (sz : Nat) (U : State) : Prop := U.heap.size = sz ∧ va_P D vwCl (wC G S) U.heap ∧ va_K D vwCl (tyC G) U ∧ va_D (fun _ => True) (wC G S) ∧ NW U
def wB (D : va_G) (G : GP) (A : Nat → Prop) (S : CS) (t : State) : Prop := va_P D vwCl (wC G S) t.heap ∧ va_D A (wC G S)
theorem blindP {av : List Value} : FrameBlind (va_Pc av NW) := fun a U g mk q => ⟨q.1, NW_vm (s := U) (U := U.calling g mk a) rfl q.2⟩
theorem blindR {av : List Value} {D : va_G} {G : GP} {S : CS} : FrameBlind (va_Pc av (rPre D G S)) := fun a U g mk q => by
  obtain ⟨q0, qP, qK, qN⟩ := q
  exact ⟨q0, qP, va_K.moved (u := U) (U := U.calling g mk a) (Vm.Alike.refl U.vm) qK, NW_vm (s := U) (U := U.calling g mk a) rfl qN⟩
theorem blindC {av : List Value} {D : va_G} {G : GP} {S : CS} {sz : Nat} : FrameBlind (va_Pc av (cPre D G S sz)) := fun a U g mk q => by
  obtain ⟨q0, q1, qP, qK, qD, qN⟩ := q
  exact ⟨q0, q1, qP, va_K.moved (u := U) (U := U.calling g mk a) (Vm.Alike.refl U.vm) qK, qD, NW_vm (s := U) (U := U.calling g mk a) rfl qN⟩
theorem rPre_of {s U : State} {H : Heap} {D : va_G} {G : GP} {S : CS} (hP : va_P D vwCl (wC G S) H) (hK : va_K D vwCl (tyC G) s) (hN : NW s) (hU : U.heap = H) (hW : s.WarmedH U.vm) : rPre D G S U := ⟨by rw [hU]; exact hP, va_K.moved hW.alike hK, NW_warm hW hN⟩
theorem cPre_of {s U : State} {H : Heap} {D : va_G} {G : GP} {S : CS} {A : Nat → Prop} (hP : va_P D vwCl (wC G S) H) (hK : va_K D vwCl (tyC G) s) (hD : va_D A (wC G S)) (hN : NW s) (hU : U.heap = H) (hW : s.WarmedH U.vm) : cPre D G S H.size U := ⟨by rw [hU], by rw [hU]; exact hP, va_K.moved hW.alike hK, hD.weaken (fun _ _ _ _ => trivial), NW_warm hW hN⟩
theorem freeAll {A0 : Nat → Prop} {ws : va_W} {H0 H : Heap} {locs : List Loc} (hD : va_D A0 ws) (hS : va_S A0 H0 H locs) (hA : ∀ q, H0.size ≤ q → A0 q) : ∀ q, va_A ws H.size q → A0 q := by
  intro q h
  rcases h with ⟨k, e, h⟩ | h
  · exact hD.2 k (q, e) h
  · exact hA q (Nat.le_trans hS.1 h)
section GRW
variable {p : Program} {l : Launch} {e : Env} {R : Room} {s : State} {m : MethodId} {args : Array Value} {below : List Frame} {meth : Method} {c : Code} {H : Heap} {locs : List Loc} {cells slots : Nat} {Q : State → Prop}
variable {cc : ByteArray} {pc : Nat} {ls : Array Slot} {rest st0 : List Value} {D : va_G} {G : GP} {cl : List vw_C} {A : Nat → Prop} {a : Nat} {tys : List (ClassId × FieldType)} {ws wz : va_W} {H0 : Heap} {S : CS} {av : Array Value}
theorem va_putE (hexec : p.tables.exec = Jvm.exec) (hb : c.code = cc) {own ref C : String} {T : u_T} {N ci index : Nat} {Ts : List Cond} (hts : ∀ w ∈ Ts, w.before args s = true) (hin : ∀ w ∈ u_ws C T N, w ∈ Ts) (ty0 : Nat → FieldType) (hty : ∀ k, k < N → parseFieldDescriptor (T k).2.2.1 = some (ty0 k)) (hnm : ∀ a, a < N → ∀ b, b < N → a ≠ b → (T a).2.1 ≠ (T b).2.1) (hown : s.vm.findClass own = some m.cls) (hK : va_K D cl tys s) (hP : va_P D cl ws H) (hD : va_D A ws) (hS0 : va_S A H0 H locs) (q0 : Nat) {fs : List Value} (he : ws[q0]? = some (a, .inr (ci, fs))) (hc : cl[ci]? = some (C, T, N)) (k : Nat) (hk : k < N) (hlink : (Cond.fieldLink own index ref (T k).2.1 (T k).2.2.1).before args s = true) (hsame : ∀ x, s.fieldFound? (T k).1 (T k).2.1 (T k).2.2.1 = some x → s.fieldFound? ref (T k).2.1 (T k).2.2.1 = some x) (hfin : (T k).2.2.2 = false) {ty : FieldType} {v : Value} (hd : parseFieldDescriptor (T k).2.2.1 = some ty) (hn : narrow ty v = v) (hfit : fits ty v = true) (hl : k < fs.length)
    (hw : ws.set q0 (a, .inr (ci, fs.set k v)) = wz) (hdg : decode cc pc = .ok (.putfield index, 3)) (kk : ∀ (H1 : Heap) (locs1 : List Loc), va_P D cl wz H1 → va_D A wz → va_S A H0 H1 locs1 → W p l e R s m args below meth c H1 locs1 cells slots Q (F0 m (pc + 3) ls rest)) : W p l e R s m args below meth c H locs cells slots Q (F0 m pc ls (v :: .ref a :: rest)) := by
  subst hw
  exact va_put hexec hb hts hin ty0 hty hnm hown hK hP hD hS0 q0 he hc k hk hlink hsame hfin hd hn hfit hl hdg kk
theorem va_iastE (hexec : p.tables.exec = Jvm.exec) (hb : c.code = cc) (hK : va_K D cl tys s) (hP : va_P D cl ws H) (hD : va_D A ws) (hS : va_S A H0 H locs) (q0 t0 : Nat) {cA : ClassId} {n : Nat} {f : Nat → Int32} (ha : ws[q0]? = some (a, .inl (cA, n, .inl f))) (ht : tys[t0]? = some (cA, .int)) {i : Int32} {x : Int32} (hin : vp_in i n) (hw : ws.set q0 (a, .inl (cA, n, .inl (upd f i.toNatClampNeg x))) = wz) (hdg : decode cc pc = .ok (.iastore, 1))
    (kk : ∀ (H1 : Heap) (locs1 : List Loc), va_P D cl wz H1 → va_D A wz → va_S A H0 H1 locs1 → W p l e R s m args below meth c H1 locs1 cells slots Q (F0 m (pc + 1) ls rest)) : W p l e R s m args below meth c H locs cells slots Q (F0 m pc ls (.int x :: .int i :: .ref a :: rest)) := by
  subst hw
  exact va_iast hexec hb hK hP hD hS q0 t0 ha ht hin hdg kk
theorem va_astqE (hexec : p.tables.exec = Jvm.exec) (hb : c.code = cc) (hK : va_K D cl tys s) (hP : va_P D cl ws H) (hD : va_D A ws) (hS : va_S A H0 H locs) (q0 t0 qk ci : Nat) {cA : ClassId} {r : vw_C} {n v : Nat} {vs : List Value} {f : Nat → Option Nat} (ha : ws[q0]? = some (a, .inl (cA, n, .inr (.inr (.inr (.inr f)))))) (ht : tys[t0]? = some (cA, .object r.1)) (hv : ws[qk]? = some (v, .inr (ci, vs))) (hc : cl[ci]? = some r) {i : Int32} (hin : vp_in i n) (hw : ws.set q0 (a, .inl (cA, n, .inr (.inr (.inr (.inr (va_up f i.toNatClampNeg (some v))))))) = wz) (hdg : decode cc pc = .ok (.aastore, 1))
    (kk : ∀ (H1 : Heap) (locs1 : List Loc), va_P D cl wz H1 → va_D A wz → va_S A H0 H1 locs1 → W p l e R s m args below meth c H1 locs1 cells slots Q (F0 m (pc + 1) ls rest)) : W p l e R s m args below meth c H locs cells slots Q (F0 m pc ls (.ref v :: .int i :: .ref a :: rest)) := by
  subst hw
  exact va_astq hexec hb hK hP hD hS q0 t0 qk ci ha ht hv hc hin hdg kk
theorem va_astqNE (hexec : p.tables.exec = Jvm.exec) (hb : c.code = cc) (hK : va_K D cl tys s) (hP : va_P D cl ws H) (hD : va_D A ws) (hS : va_S A H0 H locs) (q0 t0 : Nat) {cA : ClassId} {C : String} {n : Nat} {f : Nat → Option Nat} (ha : ws[q0]? = some (a, .inl (cA, n, .inr (.inr (.inr (.inr f)))))) (ht : tys[t0]? = some (cA, .object C)) {i : Int32} (hin : vp_in i n) (hw : ws.set q0 (a, .inl (cA, n, .inr (.inr (.inr (.inr (va_up f i.toNatClampNeg none)))))) = wz) (hdg : decode cc pc = .ok (.aastore, 1))
    (kk : ∀ (H1 : Heap) (locs1 : List Loc), va_P D cl wz H1 → va_D A wz → va_S A H0 H1 locs1 → W p l e R s m args below meth c H1 locs1 cells slots Q (F0 m (pc + 1) ls rest)) : W p l e R s m args below meth c H locs cells slots Q (F0 m pc ls (.null :: .int i :: .ref a :: rest)) := by
  subst hw
  exact va_astqN hexec hb hK hP hD hS q0 t0 ha ht hin hdg kk
/-- one of the three texts out of the row of modules -/
theorem md_ald (hexec : p.tables.exec = Jvm.exec) (hb : c.code = cc) (hK : va_K D vwCl (tyC G) s) (hP : va_P D vwCl (wC G S) H) {i : Int32} (hin : vp_in i 3) (hdg : decode cc pc = .ok (.aaload, 1))
    (kk : W p l e R s m args below meth c H locs cells slots Q (F0 m (pc + 1) ls (.ref (tA G i.toNatClampNeg 0) :: rest))) : W p l e R s m args below meth c H locs cells slots Q (F0 m pc ls (.int i :: .ref (aA G 1) :: rest)) := by
  have hlt : i.toNatClampNeg < 3 := Nat.not_le.mp fun q => hin (Or.inr q)
  refine va_aldq hexec hb hK hP 1 1 (w_1 G S) rfl hin hdg ?_
  rw [mods_at G hlt]
  exact kk
theorem cq_i {post : Int32 → CS → Prop} (hr : va_Run p l e R s m args below meth c H locs cells slots 0 0 (F0 m pc ls st0) rest (va_Qi post (wB D G (va_A (wC G S) H.size)) (va_A (wC G S) H.size) av) (va_A (wC G S) H.size)) (hD : va_D A (wC G S)) (hS : va_S A H0 H locs) (hA : ∀ q, H0.size ≤ q → A q)
    (kk : ∀ (r : Int32) (S1 : CS) (H1 : Heap) (locs1 : List Loc), post r S1 → va_P D vwCl (wC G S1) H1 → va_D A (wC G S1) → va_S A H0 H1 locs1 → W p l e R s m args below meth c H1 locs1 cells slots Q (F0 m (pc + 3) ls (.int r :: rest))) : W p l e R s m args below meth c H locs cells slots Q (F0 m pc ls st0) := by
  have hF : ∀ q, va_A (wC G S) H.size q → A q := freeAll hD hS hA
  refine va_calli hr hS (fun q _ h => hF q h) hF (fun r u t H1 locs1 ht hvm hw hB hz1 hk1 hS => ?_)
  obtain ⟨hP1, hD1⟩ := hB
  rw [ht] at hP1
  exact kk r u H1 locs1 hw hP1 (hD1.weaken (fun _ _ _ h => hF _ h)) hS
theorem cq_v {post : CS → Prop} (hr : va_Run p l e R s m args below meth c H locs cells slots 0 0 (F0 m pc ls st0) rest (va_Qv post (wB D G (va_A (wC G S) H.size)) (va_A (wC G S) H.size) av) (va_A (wC G S) H.size)) (hD : va_D A (wC G S)) (hS : va_S A H0 H locs) (hA : ∀ q, H0.size ≤ q → A q)
    (kk : ∀ (S1 : CS) (H1 : Heap) (locs1 : List Loc), post S1 → va_P D vwCl (wC G S1) H1 → va_D A (wC G S1) → va_S A H0 H1 locs1 → W p l e R s m args below meth c H1 locs1 cells slots Q (F0 m (pc + 3) ls rest)) : W p l e R s m args below meth c H locs cells slots Q (F0 m pc ls st0) := by
  have hF : ∀ q, va_A (wC G S) H.size q → A q := freeAll hD hS hA
  refine va_callv hr hS (fun q _ h => hF q h) hF (fun u t H1 locs1 ht hvm hw hB hz1 hk1 hS => ?_)
  obtain ⟨hP1, hD1⟩ := hB
  rw [ht] at hP1
  exact kk u H1 locs1 hw hP1 (hD1.weaken (fun _ _ _ h => hF _ h)) hS
end GRW
